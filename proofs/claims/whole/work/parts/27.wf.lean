/-! scenes stay such -/
def WSx (P : Pg) (S : Sc) (t : Int) : Prop :=
  (∀ p, 0 ≤ p → p < 3 → 0 ≤ S.1 p ∧ S.1 p ≤ 3 ∧ 0 ≤ S.1 (3 + p) ∧ S.1 (3 + p) ≤ P 0 6 ∧ (S.1 (6 + p) = 0 ∨ S.1 (6 + p) = 1)) ∧
  (∀ t', 0 ≤ t' → t' < 4 → t' ≠ t → 0 ≤ S.1 (9 + t') ∧ S.1 (9 + t') ≤ P 3 t' ∧ 0 ≤ S.1 (13 + t') ∧ S.1 (13 + t') ≤ 7 ∧ (S.1 (13 + t') ≠ 7 → S.1 (9 + t') < P 3 t') ∧
    (S.1 (17 + t') = 0 ∨ S.1 (17 + t') = 1 ∧ S.1 (13 + t') = 0 ∧ P 4 (5 * t' + S.1 (9 + t')) = 98)) ∧
  S.2.Nodup ∧ (∀ t', t' ∈ S.2 ↔ t' ≠ t ∧ 0 ≤ t' ∧ t' < 4 ∧ 1 ≤ S.1 (13 + t') ∧ S.1 (13 + t') ≤ 6) ∧ 0 ≤ S.1 (9 + t) ∧ S.1 (9 + t) < P 3 t
section WF
variable {P : Pg} {S : Sc} {t p q u : Int}
theorem WS0.x (h : WS0 P S) (h0 : 0 ≤ t) (h4 : t < 4) (hh : S.1 (13 + t) = 0) : WSx P S t := by
  obtain ⟨a1, a2, a3, a4⟩ := h
  obtain ⟨f1, f2, f3, f4, f5, f6⟩ := a2 t h0 h4
  refine ⟨a1, fun t' g0 g4 _ => a2 t' g0 g4, a3, fun t' => ?_, f1, f5 (by omega)⟩
  rw [a4 t']
  constructor
  · rintro ⟨e0, e4, e1, e6⟩
    exact ⟨fun e => by rw [e, hh] at e1; omega, e0, e4, e1, e6⟩
  · rintro ⟨-, e⟩
    exact e
theorem WS0.xr (h : WS0 P S) (ht : t ∈ S.2) : WSx P (S.1, S.2.filter (fun x => x ≠ t)) t := by
  obtain ⟨a1, a2, a3, a4⟩ := h
  obtain ⟨h0, h4, h1, h6⟩ := (a4 t).mp ht
  obtain ⟨f1, f2, f3, f4, f5, f6⟩ := a2 t h0 h4
  refine ⟨a1, fun t' g0 g4 _ => a2 t' g0 g4, a3.filter _, fun t' => ?_, f1, f5 (by omega)⟩
  rw [List.mem_filter, a4 t']
  simp only [decide_eq_true_eq]
  constructor
  · rintro ⟨e, n⟩
    exact ⟨n, e⟩
  · rintro ⟨n, e⟩
    exact ⟨e, n⟩
theorem WSx.go (h : WSx P S t) (h0 : 0 ≤ t) (h4 : t < 4) : WS0 P (sGo P t S) := by
  obtain ⟨a1, a2, a3, a4, a5, a6⟩ := h
  refine ⟨fun p g0 g3 => ?_, fun t' g0 g4 => ?_, a3, fun t' => ?_⟩
  · simp (disch := omega) only [sGo, su_ne]
    exact a1 p g0 g3
  · by_cases e : t' = t
    · subst e
      by_cases hl : S.1 (9 + t') + 1 < P 3 t'
      · simp (disch := omega) only [sGo, su_ne, su_self, if_pos, if_neg]
        exact ⟨by omega, by omega, by omega, by omega, fun _ => by omega, by simp⟩
      · simp (disch := omega) only [sGo, su_ne, su_self, if_pos, if_neg]
        exact ⟨by omega, by omega, by omega, by omega, fun h => absurd rfl h, by simp⟩
    · simp (disch := omega) only [sGo, su_ne]
      exact a2 t' g0 g4 e
  · rw [show (sGo P t S).2 = S.2 from rfl, a4 t']
    by_cases e : t' = t
    · subst e
      simp (disch := omega) only [sGo, su_self]
      constructor
      · rintro ⟨n, -⟩
        exact absurd rfl n
      · rintro ⟨-, -, e1, e6⟩
        split at e1 <;> split at e6 <;> omega
    · constructor
      · rintro ⟨n, e0, e4, e1, e6⟩
        simp (disch := omega) only [sGo, su_ne]
        exact ⟨e0, e4, e1, e6⟩
      · rintro ⟨e0, e4, e1, e6⟩
        simp (disch := omega) only [sGo, su_ne] at e1 e6
        exact ⟨e, e0, e4, e1, e6⟩
theorem WS0.go (h : WS0 P S) (h0 : 0 ≤ t) (h4 : t < 4) (hh : S.1 (13 + t) = 0) : WS0 P (sGo P t S) := (h.x h0 h4 hh).go h0 h4
theorem WS0.rl (h : WS0 P S) (ht : t ∈ S.2) : WS0 P (sRl P t S) := by
  obtain ⟨h0, h4, -, -⟩ := (h.2.2.2 t).mp ht
  exact (h.xr ht).go h0 h4
theorem WS0.jn (h : WS0 P S) (h0 : 0 ≤ t) (h4 : t < 4) (hh : S.1 (13 + t) = 0) (hu : 1 ≤ u ∧ u ≤ 6) : WS0 P (sJn t u S) := by
  obtain ⟨a1, a2, a3, a4⟩ := h
  have hn : t ∉ S.2 := fun e => by
    have := (a4 t).mp e
    omega
  refine ⟨fun p g0 g3 => ?_, fun t' g0 g4 => ?_, ?_, fun t' => ?_⟩
  · simp (disch := omega) only [sJn, su_ne]
    exact a1 p g0 g3
  · obtain ⟨f1, f2, f3, f4, f5, f6⟩ := a2 t' g0 g4
    by_cases e : t' = t
    · subst e
      simp (disch := omega) only [sJn, su_ne, su_self]
      exact ⟨f1, f2, by omega, by omega, fun _ => f5 (by omega), by simp⟩
    · simp (disch := omega) only [sJn, su_ne]
      exact ⟨f1, f2, f3, f4, f5, f6⟩
  · show (S.2 ++ [t]).Nodup
    rw [List.nodup_append]
    refine ⟨a3, by simp, fun a ha b hb e => ?_⟩
    rw [List.mem_singleton] at hb
    subst hb
    subst e
    exact hn ha
  · show t' ∈ S.2 ++ [t] ↔ _
    rw [List.mem_append, List.mem_singleton, a4 t']
    by_cases e : t' = t
    · subst e
      simp (disch := omega) only [sJn, su_self]
      exact ⟨fun _ => ⟨h0, h4, hu.1, hu.2⟩, fun _ => Or.inr trivial⟩
    · constructor
      · rintro (⟨e0, e4, e1, e6⟩ | h)
        · simp (disch := omega) only [sJn, su_ne]
          exact ⟨e0, e4, e1, e6⟩
        · exact absurd h e
      · rintro ⟨e0, e4, e1, e6⟩
        simp (disch := omega) only [sJn, su_ne] at e1 e6
        exact Or.inl ⟨e0, e4, e1, e6⟩
theorem sFa_in {s : Int → Int} : ∀ (r : List Int), sFa s p r = 4 ∨ sFa s p r ∈ r
  | [] => Or.inl rfl
  | t :: r => by
    rw [sFa]
    split
    · exact Or.inr List.mem_cons_self
    · rcases sFa_in r with h | h
      · exact Or.inl h
      · exact Or.inr (List.mem_cons_of_mem _ h)
theorem WS0.wk : ∀ (n : Nat) {S : Sc}, WS0 P S → WS0 P (sWk P p n S)
  | 0, _, h => h
  | n + 1, S, h => by
    rw [sWk]
    split
    · exact WS0.wk n h
    · next e =>
      rcases sFa_in (s := S.1) (p := p) S.2 with q | q
      · exact absurd q e
      · exact WS0.wk n (h.rl q)
theorem sRl_off (ht : u ≠ t) (h0 : 0 ≤ u) (h4 : u < 4) (t0 : 0 ≤ t) (t4 : t < 4) : (sRl P t S).1 (9 + u) = S.1 (9 + u) ∧ (sRl P t S).1 (13 + u) = S.1 (13 + u) ∧ (sRl P t S).1 (17 + u) = S.1 (17 + u) ∧ (u ∈ (sRl P t S).2 ↔ u ∈ S.2) := by
  refine ⟨?_, ?_, ?_, ?_⟩
  · simp (disch := omega) only [sRl, sGo, su_ne]
  · simp (disch := omega) only [sRl, sGo, su_ne]
  · simp (disch := omega) only [sRl, sGo, su_ne]
  · show u ∈ S.2.filter (fun x => x ≠ t) ↔ _
    rw [List.mem_filter]
    simp [ht]
theorem sWk_off : ∀ (n : Nat) {S : Sc}, WS0 P S → 0 ≤ u → u < 4 → u ∉ S.2 → (sWk P p n S).1 (9 + u) = S.1 (9 + u) ∧ (sWk P p n S).1 (13 + u) = S.1 (13 + u) ∧ (sWk P p n S).1 (17 + u) = S.1 (17 + u) ∧ u ∉ (sWk P p n S).2
  | 0, _, _, _, _, hu => ⟨rfl, rfl, rfl, hu⟩
  | n + 1, S, h, h0, h4, hu => by
    rw [sWk]
    split
    · exact sWk_off n h h0 h4 hu
    · next e =>
      rcases sFa_in (s := S.1) (p := p) S.2 with q | q
      · exact absurd q e
      · obtain ⟨t0, t4, -, -⟩ := (h.2.2.2 _).mp q
        have hne : u ≠ sFa S.1 p S.2 := fun e => hu (e ▸ q)
        obtain ⟨b1, b2, b3, b4⟩ := sRl_off (P := P) (S := S) hne h0 h4 t0 t4
        obtain ⟨c1, c2, c3, c4⟩ := sWk_off n (h.rl q) h0 h4 (fun e => hu (b4.mp e))
        exact ⟨c1.trans b1, c2.trans b2, c3.trans b3, c4⟩
/-- places are not touched by waking -/
theorem sGo_pl (h0 : 0 ≤ t) (i : Int) (hi : i < 9) : (sGo P t S).1 i = S.1 i := by
  simp (disch := omega) only [sGo, su_ne]
theorem sWk_pl : ∀ (n : Nat) {S : Sc}, WS0 P S → ∀ i, i < 9 → (sWk P p n S).1 i = S.1 i
  | 0, _, _, _, _ => rfl
  | n + 1, S, h, i, hi => by
    rw [sWk]
    split
    · exact sWk_pl n h i hi
    · next e =>
      rcases sFa_in (s := S.1) (p := p) S.2 with q | q
      · exact absurd q e
      · obtain ⟨t0, t4, -, -⟩ := (h.2.2.2 _).mp q
        rw [sWk_pl n (h.rl q) i hi]
        exact sGo_pl t0 i hi
theorem WS0.mv (h : WS0 P S) (hq : 0 ≤ q ∧ q < 3) (hp : 0 ≤ p ∧ p < 3) : WS0 P (sMv P p q S) := by
  have h1 := WS0.wk (p := p) 1 h
  unfold sMv
  generalize sWk P p 1 S = T at h1 ⊢
  obtain ⟨a1, a2, a3, a4⟩ := h1
  have ex : ∀ i, (13 ≤ i ∧ i ≤ 16 ∧ T.1 i = 1 + p) → (if 13 ≤ i ∧ i ≤ 16 ∧ T.1 i = 1 + p then 1 + q else T.1 i) = 1 + q := fun i h => if_pos h
  refine ⟨fun p' g0 g3 => ?_, fun t' g0 g4 => ?_, a3, fun t' => ?_⟩
  · simp (disch := omega) only [if_neg]
    exact a1 p' g0 g3
  · obtain ⟨f1, f2, f3, f4, f5, f6⟩ := a2 t' g0 g4
    dsimp only
    rw [if_neg (show ¬ (13 ≤ 9 + t' ∧ 9 + t' ≤ 16 ∧ T.1 (9 + t') = 1 + p) by omega), if_neg (show ¬ (13 ≤ 17 + t' ∧ 17 + t' ≤ 16 ∧ T.1 (17 + t') = 1 + p) by omega)]
    by_cases e : T.1 (13 + t') = 1 + p
    · rw [if_pos ⟨by omega, by omega, e⟩]
      omega
    · rw [if_neg (fun z => e z.2.2)]
      exact ⟨f1, f2, f3, f4, f5, f6⟩
  · dsimp only
    rw [a4 t']
    by_cases e : T.1 (13 + t') = 1 + p
    · by_cases hr : 0 ≤ t' ∧ t' < 4
      · rw [if_pos ⟨by omega, by omega, e⟩]
        omega
      · constructor
        · rintro ⟨e0, e4, -, -⟩
          exact absurd ⟨e0, e4⟩ hr
        · rintro ⟨e0, e4, -, -⟩
          exact absurd ⟨e0, e4⟩ hr
    · rw [if_neg (fun z => e z.2.2)]
theorem WS0.own (h : WS0 P S) (hp : 0 ≤ p ∧ p < 3) (hu : 0 ≤ u ∧ u ≤ P 0 6) : WS0 P (su S.1 (3 + p) u, S.2) := by
  obtain ⟨a1, a2, a3, a4⟩ := h
  refine ⟨fun p' g0 g3 => ?_, fun t' g0 g4 => ?_, a3, fun t' => ?_⟩
  · obtain ⟨c1, c2, c3, c4, c5⟩ := a1 p' g0 g3
    by_cases e : p' = p
    · subst e
      simp (disch := omega) only [su_ne, su_self]
      exact ⟨c1, c2, hu.1, hu.2, c5⟩
    · simp (disch := omega) only [su_ne]
      exact ⟨c1, c2, c3, c4, c5⟩
  · simp (disch := omega) only [su_ne]
    exact a2 t' g0 g4
  · rw [a4 t']
    constructor
    · rintro ⟨e0, e4, e1, e6⟩
      simp (disch := omega) only [su_ne]
      exact ⟨e0, e4, e1, e6⟩
    · rintro ⟨e0, e4, e1, e6⟩
      simp (disch := omega) only [su_ne] at e1 e6
      exact ⟨e0, e4, e1, e6⟩
theorem WS0.dead (h : WS0 P S) (hp : 0 ≤ p ∧ p < 3) (hu : u = 0 ∨ u = 1) : WS0 P (su S.1 (6 + p) u, S.2) := by
  obtain ⟨a1, a2, a3, a4⟩ := h
  refine ⟨fun p' g0 g3 => ?_, fun t' g0 g4 => ?_, a3, fun t' => ?_⟩
  · obtain ⟨c1, c2, c3, c4, c5⟩ := a1 p' g0 g3
    by_cases e : p' = p
    · subst e
      simp (disch := omega) only [su_ne, su_self]
      exact ⟨c1, c2, c3, c4, hu⟩
    · simp (disch := omega) only [su_ne]
      exact ⟨c1, c2, c3, c4, c5⟩
  · simp (disch := omega) only [su_ne]
    exact a2 t' g0 g4
  · rw [a4 t']
    constructor
    · rintro ⟨e0, e4, e1, e6⟩
      simp (disch := omega) only [su_ne]
      exact ⟨e0, e4, e1, e6⟩
    · rintro ⟨e0, e4, e1, e6⟩
      simp (disch := omega) only [su_ne] at e1 e6
      exact ⟨e0, e4, e1, e6⟩
theorem WS0.val (h : WS0 P S) (hp : 0 ≤ p ∧ p < 3) (hu : 0 ≤ u ∧ u ≤ 3) : WS0 P (su S.1 p u, S.2) := by
  obtain ⟨a1, a2, a3, a4⟩ := h
  refine ⟨fun p' g0 g3 => ?_, fun t' g0 g4 => ?_, a3, fun t' => ?_⟩
  · obtain ⟨c1, c2, c3, c4, c5⟩ := a1 p' g0 g3
    by_cases e : p' = p
    · subst e
      simp (disch := omega) only [su_ne, su_self]
      exact ⟨hu.1, hu.2, c3, c4, c5⟩
    · simp (disch := omega) only [su_ne]
      exact ⟨c1, c2, c3, c4, c5⟩
  · simp (disch := omega) only [su_ne]
    exact a2 t' g0 g4
  · rw [a4 t']
    constructor
    · rintro ⟨e0, e4, e1, e6⟩
      simp (disch := omega) only [su_ne]
      exact ⟨e0, e4, e1, e6⟩
    · rintro ⟨e0, e4, e1, e6⟩
      simp (disch := omega) only [su_ne] at e1 e6
      exact ⟨e0, e4, e1, e6⟩
theorem sHo_in (S : Sc) : sHo P p S = 4 ∨ sHo P p S ∈ S.2 := sHr_in S.2 4
theorem WS0.hd (h : WS0 P S) (hP : WP P) (hp : 0 ≤ p ∧ p < 3) : WS0 P (sHd P p S) := by
  unfold sHd
  split
  · exact h.own hp ⟨by omega, hP.1⟩
  · next e =>
    rcases sHo_in (P := P) (p := p) S with q | q
    · exact absurd q e
    · obtain ⟨b1, b2, b3⟩ := row_lt h hP q
      exact (h.own hp (u := sHo P p S + 1) (by omega)).rl q
theorem sHd_off (h : WS0 P S) (hP : WP P) (hp : 0 ≤ p ∧ p < 3) (h0 : 0 ≤ u) (h4 : u < 4) (hu : u ∉ S.2) : (sHd P p S).1 (9 + u) = S.1 (9 + u) ∧ (sHd P p S).1 (13 + u) = S.1 (13 + u) ∧ (sHd P p S).1 (17 + u) = S.1 (17 + u) ∧ u ∉ (sHd P p S).2 := by
  unfold sHd
  split
  · refine ⟨?_, ?_, ?_, hu⟩ <;> simp (disch := omega) only [su_ne]
  · next e =>
    rcases sHo_in (P := P) (p := p) S with q | q
    · exact absurd q e
    · obtain ⟨b1, b2, b3⟩ := row_lt h hP q
      have hne : u ≠ sHo P p S := fun e => hu (e ▸ q)
      obtain ⟨c1, c2, c3, c4⟩ := sRl_off (P := P) (S := (su S.1 (3 + p) (sHo P p S + 1), S.2)) hne h0 h4 b1 b3
      refine ⟨?_, ?_, ?_, fun e => hu (c4.mp e)⟩
      · rw [c1]
        simp (disch := omega) only [su_ne]
      · rw [c2]
        simp (disch := omega) only [su_ne]
      · rw [c3]
        simp (disch := omega) only [su_ne]
/-- places behind a handing on -/
theorem sHd_pl (h : WS0 P S) (hP : WP P) (hp : 0 ≤ p ∧ p < 3) (i : Int) (hi : i < 9) (hn : i ≠ 3 + p) : (sHd P p S).1 i = S.1 i := by
  unfold sHd
  split
  · exact su_ne _ hn
  · next e =>
    rcases sHo_in (P := P) (p := p) S with q | q
    · exact absurd q e
    · obtain ⟨b1, b2, b3⟩ := row_lt h hP q
      unfold sRl
      rw [sGo_pl b1 i hi]
      exact su_ne _ hn
theorem sHd_ow (h : WS0 P S) (hP : WP P) (hp : 0 ≤ p ∧ p < 3) : (sHd P p S).1 (3 + p) = if sHo P p S = 4 then 0 else sHo P p S + 1 := by
  unfold sHd
  split
  · exact su_self _ _ _
  · next e =>
    rcases sHo_in (P := P) (p := p) S with q | q
    · exact absurd q e
    · obtain ⟨b1, b2, b3⟩ := row_lt h hP q
      unfold sRl
      rw [sGo_pl b1 _ (by omega)]
      exact su_self _ _ _
end WF
