/-! what a text tells, token by token: whether it could be read, what is left, what is told -/
abbrev Ps : Type := Int × Tk × Pg
def addO (D : Pg) (c p s : Int) : Pg := zup (zup (zup (zup D 4 (5 * (D 0 6 - 1) + D 3 (D 0 6 - 1)) c) 5 (5 * (D 0 6 - 1) + D 3 (D 0 6 - 1)) p) 6 (5 * (D 0 6 - 1) + D 3 (D 0 6 - 1)) s) 3 (D 0 6 - 1) (D 3 (D 0 6 - 1) + 1)
def aOp (D : Pg) (L : Tk) : Ps :=
  if ¬ is9 (hk L) then (0, L, D) else
  if hk L = 120 then (1, L.tail, addO D 120 3 0) else
  if ¬ (0 ≤ hk L.tail ∧ hk L.tail ≤ 2) then (0, L.tail, D) else
  if ¬ is5 (hk L) then (1, L.tail.tail, addO D (hk L) (hk L.tail) 0) else
  if hk L = 113 ∧ hk L.tail.tail = hk L.tail then (0, L.tail.tail, D) else
  if ¬ ((if hk L = 107 then 1 else 0) ≤ hk L.tail.tail ∧ hk L.tail.tail ≤ (if hk L = 113 then 2 else 3)) then (0, L.tail.tail, D) else
  (1, L.tail.tail.tail, addO D (hk L) (hk L.tail) (hk L.tail.tail))
def aEnd (D : Pg) (L : Tk) : Ps := if hk L = 59 then (1, L.tail, D) else (0, L, D)
/-- a value (k = 1, at most 2) or a rank (k = 2, at most the last thread) -/
def aVal (k h : Int) (D : Pg) (L : Tk) : Ps :=
  if ¬ (0 ≤ hk L.tail ∧ hk L.tail ≤ h) then (0, L.tail, D) else
  if ¬ (0 ≤ hk L.tail.tail ∧ hk L.tail.tail ≤ 3) then (0, L.tail.tail, D) else
  aEnd (zup D k (hk L.tail) (hk L.tail.tail)) L.tail.tail.tail
def aOps : Nat → Pg → Tk → Ps
  | 0, D, L => aEnd D L
  | u + 1, D, L => if hk L = 59 then aEnd D L else if (aOp D L).1 = 0 then aOp D L else aOps u (aOp D L).2.2 (aOp D L).2.1
def aThr (D : Pg) (L : Tk) : Ps := if 4 ≤ D 0 6 then (0, L, D) else aOps 5 (zup D 0 6 (D 0 6 + 1)) L.tail
def aItem (D : Pg) (L : Tk) : Ps := if hk L = 118 then aVal 1 2 D L else if hk L = 116 then aThr D L else if hk L = 114 then aVal 2 (D 0 6 - 1) D L else (0, L, D)
def aRead : Nat → Int → Pg → Tk → Ps
  | 0, k, D, L => (k, L, D)
  | u + 1, k, D, L => if hk L = -1 then (k, L, D) else if (aItem D L).1 = 0 then (-10 - hs (aItem D L).2.1, (aItem D L).2.1, (aItem D L).2.2) else aRead u (k + 1) (aItem D L).2.2 (aItem D L).2.1
def WD (D : Pg) : Prop := WP D ∧ ∀ t, D 0 6 ≤ t → t < 4 → D 2 t = 0
/-- a good end: still a list of tokens, not longer -/
def gR (n : Nat) (L : Tk) (r : Ps) : Prop := gT n r.2.1 ∧ r.2.1.length ≤ L.length ∧ WD r.2.2 ∧ (r.1 = 0 ∨ r.1 = 1 ∧ r.2.1.length < L.length)
section T5
variable {n : Nat} {L : Tk} {D : Pg}
theorem tl_lt (h : gT n L) : L.tail.length < L.length := by
  have := h.ne
  rw [List.length_tail]
  omega
theorem gR.tr {L' : Tk} {r : Ps} (h : gR n L' r) (hl : L'.length ≤ L.length) : gR n L r := ⟨h.1, Nat.le_trans h.2.1 hl, h.2.2.1, h.2.2.2.elim Or.inl (fun z => Or.inr ⟨z.1, Nat.lt_of_lt_of_le z.2 hl⟩)⟩
theorem gR.no (h : gT n L) (hD : WD D) : gR n L (0, L, D) := ⟨h, Nat.le_refl _, hD, Or.inl rfl⟩
theorem aEnd_g (h : gT n L) (hD : WD D) : gR n L (aEnd D L) := by
  unfold aEnd
  split
  · rename_i c
    have := tl_lt h
    exact ⟨h.tl (by omega), by dsimp only; omega, hD, Or.inr ⟨rfl, this⟩⟩
  · exact .no h hD
theorem WD.val (hD : WD D) {p v : Int} (hp : 0 ≤ p ∧ p ≤ 2) (hv : 0 ≤ v ∧ v ≤ 3) : WD (zup D 1 p v) := by
  obtain ⟨⟨h1, h2, h3, h4, h5⟩, h6⟩ := hD
  unfold WD WP
  rw [zup_ne (a := 1) (a' := 0) (by omega), zup_ne (a := 1) (a' := 2) (by omega), zup_ne (a := 1) (a' := 3) (by omega), zup_ne (a := 1) (a' := 4) (by omega), zup_ne (a := 1) (a' := 5) (by omega), zup_ne (a := 1) (a' := 6) (by omega)]
  refine ⟨⟨h1, h2, fun q q0 q3 => ?_, h4, h5⟩, h6⟩
  by_cases c : q = p
  · subst c
    rw [zup_self]
    exact hv
  · rw [zup_off _ (Or.inr c)]
    exact h3 q q0 q3
theorem WD.rank (hD : WD D) {p v : Int} (hp : 0 ≤ p ∧ p ≤ D 0 6 - 1) (hv : 0 ≤ v ∧ v ≤ 3) : WD (zup D 2 p v) := by
  obtain ⟨⟨h1, h2, h3, h4, h5⟩, h6⟩ := hD
  unfold WD WP
  rw [zup_ne (a := 2) (a' := 0) (by omega), zup_ne (a := 2) (a' := 1) (by omega), zup_ne (a := 2) (a' := 3) (by omega), zup_ne (a := 2) (a' := 4) (by omega), zup_ne (a := 2) (a' := 5) (by omega), zup_ne (a := 2) (a' := 6) (by omega)]
  refine ⟨⟨h1, h2, h3, fun q q0 q3 => ?_, h5⟩, fun t t0 t4 => ?_⟩
  · have h := h4 q q0 q3
    by_cases c : q = p
    · subst c
      rw [zup_self]
      exact ⟨hv.1, hv.2, h.2.2⟩
    · rw [zup_off _ (Or.inr c)]
      exact h
  · rw [zup_off _ (Or.inr (by omega))]
    exact h6 t t0 t4
theorem WD.thr (hD : WD D) (h : D 0 6 < 4) : WD (zup D 0 6 (D 0 6 + 1)) := by
  obtain ⟨⟨h1, h2, h3, h4, h5⟩, h6⟩ := hD
  unfold WD WP
  rw [zup_self, zup_ne (a := 0) (a' := 1) (by omega), zup_ne (a := 0) (a' := 2) (by omega), zup_ne (a := 0) (a' := 3) (by omega), zup_ne (a := 0) (a' := 4) (by omega), zup_ne (a := 0) (a' := 5) (by omega), zup_ne (a := 0) (a' := 6) (by omega)]
  refine ⟨⟨by omega, by omega, h3, fun t t0 t4 => ?_, h5⟩, fun t t0 t4 => h6 t (by omega) t4⟩
  have h := h4 t t0 t4
  exact ⟨h.1, h.2.1, h.2.2.1, h.2.2.2.1, fun z => h.2.2.2.2 (by omega)⟩
/-- an operation that may stand -/
def oOk (c p s : Int) : Prop := c = 120 ∨ (0 ≤ p ∧ p ≤ 2 ∧ ((c = 115 ∨ c = 119 ∨ c = 98) ∧ 0 ≤ s ∧ s ≤ 3 ∨ c = 105 ∨ c = 107 ∧ 1 ≤ s ∧ s ≤ 3 ∨ c = 113 ∧ 0 ≤ s ∧ s ≤ 2 ∧ s ≠ p ∨ c = 108 ∨ c = 117))
theorem addO_0 {c p s : Int} : addO D c p s 0 = D 0 := by
  unfold addO
  rw [zup_ne (by omega), zup_ne (by omega), zup_ne (by omega), zup_ne (by omega)]
theorem addO_3 {c p s : Int} : addO D c p s 3 (D 0 6 - 1) = D 3 (D 0 6 - 1) + 1 := by
  unfold addO
  rw [zup_self]
theorem WD.op (hD : WD D) {c p s : Int} (h : 1 ≤ D 0 6) (hl : D 3 (D 0 6 - 1) < 5) (ho : oOk c p s) : WD (addO D c p s) := by
  obtain ⟨⟨h1, h2, h3, h4, h5⟩, h6⟩ := hD
  have hh := h4 (D 0 6 - 1) (by omega) (by omega)
  obtain ⟨t, et⟩ : ∃ t, D 0 6 - 1 = t := ⟨_, rfl⟩
  unfold WD WP
  rw [addO_0]
  unfold addO
  rw [et] at hl hh ⊢
  obtain ⟨l, el⟩ : ∃ l, D 3 t = l := ⟨_, rfl⟩
  rw [el] at hl hh ⊢
  obtain ⟨k, ek⟩ : ∃ k, 5 * t + l = k := ⟨_, rfl⟩
  rw [ek]
  obtain ⟨E, eE⟩ : ∃ E, zup (zup (zup (zup D 4 k c) 5 k p) 6 k s) 3 t (l + 1) = E := ⟨_, rfl⟩
  rw [eE]
  have f1 : E 1 = D 1 := by rw [← eE, zup_ne (by omega), zup_ne (by omega), zup_ne (by omega), zup_ne (by omega)]
  have f2 : E 2 = D 2 := by rw [← eE, zup_ne (by omega), zup_ne (by omega), zup_ne (by omega), zup_ne (by omega)]
  have f3 : ∀ u, u ≠ t → E 3 u = D 3 u := fun u hu => by rw [← eE, zup_off _ (Or.inr hu), zup_ne (by omega), zup_ne (by omega), zup_ne (by omega)]
  have f3' : E 3 t = l + 1 := by rw [← eE, zup_self]
  have f4 : ∀ u, u ≠ k → E 4 u = D 4 u := fun u hu => by rw [← eE, zup_ne (by omega), zup_ne (by omega), zup_ne (by omega), zup_off _ (Or.inr hu)]
  have f4' : E 4 k = c := by rw [← eE, zup_ne (by omega), zup_ne (by omega), zup_ne (by omega), zup_self]
  have f5 : ∀ u, u ≠ k → E 5 u = D 5 u := fun u hu => by rw [← eE, zup_ne (by omega), zup_ne (by omega), zup_off _ (Or.inr hu), zup_ne (by omega)]
  have f5' : E 5 k = p := by rw [← eE, zup_ne (by omega), zup_ne (by omega), zup_self]
  have f6 : ∀ u, u ≠ k → E 6 u = D 6 u := fun u hu => by rw [← eE, zup_ne (by omega), zup_off _ (Or.inr hu), zup_ne (by omega), zup_ne (by omega)]
  have f6' : E 6 k = s := by rw [← eE, zup_ne (by omega), zup_self]
  clear eE
  rw [f1, f2]
  refine ⟨⟨h1, h2, h3, fun u u0 u4 => ?_, fun u i u0 u4 i0 il => ?_⟩, h6⟩
  · have := h4 u u0 u4
    by_cases cu : u = t
    · subst cu
      rw [f3']
      refine ⟨this.1, this.2.1, by omega, by omega, fun z => by omega⟩
    · rw [f3 u cu]
      exact this
  · by_cases cu : 5 * u + i = k
    · rw [cu, f4', f5', f6']
      exact ho
    · rw [f4 _ cu, f5 _ cu, f6 _ cu]
      refine h5 u i u0 u4 i0 ?_
      by_cases cv : u = t
      · subst cv
        rw [f3'] at il
        omega
      · rw [f3 u cv] at il
        exact il
theorem aOp_g (h : gT n L) (hD : WD D) (h1 : 1 ≤ D 0 6) (hl : D 3 (D 0 6 - 1) < 5) : gR n L (aOp D L) ∧ (aOp D L).2.2 0 = D 0 ∧ ((aOp D L).1 = 1 → (aOp D L).2.2 3 (D 0 6 - 1) = D 3 (D 0 6 - 1) + 1) := by
  unfold aOp
  by_cases c0 : ¬ is9 (hk L)
  · rw [if_pos c0]
    exact ⟨.no h hD, rfl, fun z => absurd (show (0 : Int) = 1 from z) (by decide)⟩
  rw [if_neg c0]
  have g1 := h.tl (by omega)
  have l1 := tl_lt h
  by_cases c1 : hk L = 120
  · rw [if_pos c1]
    exact ⟨⟨g1, by dsimp only; omega, hD.op h1 hl (Or.inl rfl), Or.inr ⟨rfl, l1⟩⟩, by dsimp only; exact addO_0, fun _ => by dsimp only; exact addO_3⟩
  rw [if_neg c1]
  by_cases c2 : ¬ (0 ≤ hk L.tail ∧ hk L.tail ≤ 2)
  · rw [if_pos c2]
    exact ⟨⟨g1, by dsimp only; omega, hD, Or.inl rfl⟩, rfl, fun z => absurd (show (0 : Int) = 1 from z) (by decide)⟩
  rw [if_neg c2]
  have g2 := g1.tl (by omega)
  have l2 := tl_lt g1
  by_cases c3 : ¬ is5 (hk L)
  · rw [if_pos c3]
    refine ⟨⟨g2, by dsimp only; omega, hD.op h1 hl ?_, Or.inr ⟨rfl, by dsimp only; omega⟩⟩, by dsimp only; exact addO_0, fun _ => by dsimp only; exact addO_3⟩
    unfold oOk
    omega
  rw [if_neg c3]
  by_cases c4 : hk L = 113 ∧ hk L.tail.tail = hk L.tail
  · rw [if_pos c4]
    exact ⟨⟨g2, by dsimp only; omega, hD, Or.inl rfl⟩, rfl, fun z => absurd (show (0 : Int) = 1 from z) (by decide)⟩
  rw [if_neg c4]
  by_cases c5 : ¬ ((if hk L = 107 then 1 else 0) ≤ hk L.tail.tail ∧ hk L.tail.tail ≤ (if hk L = 113 then 2 else 3))
  · rw [if_pos c5]
    exact ⟨⟨g2, by dsimp only; omega, hD, Or.inl rfl⟩, rfl, fun z => absurd (show (0 : Int) = 1 from z) (by decide)⟩
  rw [if_neg c5]
  have c6 : (if hk L = 107 then 1 else 0) ≤ hk L.tail.tail ∧ hk L.tail.tail ≤ (if hk L = 113 then 2 else 3) := Classical.not_not.mp c5
  have b0 : 0 ≤ hk L.tail.tail := Int.le_trans (by split <;> omega) c6.1
  have g3 := g2.tl (by omega)
  have l3 := tl_lt g2
  refine ⟨⟨g3, by dsimp only; omega, hD.op h1 hl ?_, Or.inr ⟨rfl, by dsimp only; omega⟩⟩, by dsimp only; exact addO_0, fun _ => by dsimp only; exact addO_3⟩
  unfold oOk
  clear c5 g1 g2 g3 l1 l2 l3
  split at c6 <;> split at c6 <;> omega
theorem aVal_g {k h : Int} (hg : gT n L) (hL : hk L ≠ -1) (hD : WD D) (hh : k = 1 ∧ h = 2 ∨ k = 2 ∧ h = D 0 6 - 1) : gR n L (aVal k h D L) := by
  unfold aVal
  have g1 := hg.tl hL
  have l1 := tl_lt hg
  by_cases c2 : ¬ (0 ≤ hk L.tail ∧ hk L.tail ≤ h)
  · rw [if_pos c2]
    exact ⟨g1, by dsimp only; omega, hD, Or.inl rfl⟩
  rw [if_neg c2]
  have g2 := g1.tl (by omega)
  have l2 := tl_lt g1
  by_cases c3 : ¬ (0 ≤ hk L.tail.tail ∧ hk L.tail.tail ≤ 3)
  · rw [if_pos c3]
    exact ⟨g2, by dsimp only; omega, hD, Or.inl rfl⟩
  rw [if_neg c3]
  have g3 := g2.tl (by omega)
  have l3 := tl_lt g2
  refine (aEnd_g g3 ?_).tr (by omega)
  rcases hh with ⟨rfl, rfl⟩ | ⟨rfl, rfl⟩
  · exact hD.val (by omega) (by omega)
  · exact hD.rank (by omega) (by omega)
theorem aOps_g : ∀ (u : Nat) (D : Pg) (L : Tk), gT n L → WD D → 1 ≤ D 0 6 → D 3 (D 0 6 - 1) + u = 5 → gR n L (aOps u D L)
  | 0, D, L, h, hD, _, _ => aEnd_g h hD
  | u + 1, D, L, h, hD, h1, hu => by
    rw [aOps]
    split
    · exact aEnd_g h hD
    · obtain ⟨q1, q2, q3⟩ := aOp_g h hD h1 (by omega)
      split
      · exact q1
      · have e1 : (aOp D L).1 = 1 := by
          rcases q1.2.2.2 with z | z
          · exact absurd z (by assumption)
          · exact z.1
        refine (aOps_g u _ _ q1.1 q1.2.2.1 (by rw [q2]; exact h1) ?_).tr q1.2.1
        rw [q2, q3 e1]
        omega
theorem aThr_g (h : gT n L) (hL : hk L ≠ -1) (hD : WD D) : gR n L (aThr D L) := by
  unfold aThr
  split
  · exact .no h hD
  · have l1 := tl_lt h
    have e0 : ∀ x, zup D 0 6 x 3 = D 3 := fun x => zup_ne (by omega)
    have h1 := hD.1.1
    refine (aOps_g 5 _ _ (h.tl hL) (hD.thr (by omega)) (by rw [zup_self]; omega) ?_).tr (by omega)
    rw [zup_self, e0, (hD.1.2.2.2.1 (D 0 6 + 1 - 1) (by omega) (by omega)).2.2.2.2 (by omega)]
    rfl
theorem aItem_g (h : gT n L) (hD : WD D) : gR n L (aItem D L) := by
  unfold aItem
  split
  · exact aVal_g h (by omega) hD (Or.inl ⟨rfl, rfl⟩)
  split
  · exact aThr_g h (by omega) hD
  split
  · exact aVal_g h (by omega) hD (Or.inr ⟨rfl, rfl⟩)
  · exact .no h hD
end T5
