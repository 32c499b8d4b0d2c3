/-! what the constructors make: a run with no input -/
def wI0 : zW := zblank (fun _ _ => 0) 0 (fun j => if ztg 7 j.toNat = 2 then -1 else 0)
def iR1 : Option zR := zrun 3000 9 72 (0, zloc 72 [(2, 0)], [], 1, wI0)
def wI1 : zW := match iR1 with
  | some r => r.2.2
  | none => fun _ _ => 0
def wI2 : zW := zblank wI1 67 (fun j => if ztg 8 j.toNat = 2 then -1 else 0)
def iR2 : Option zR := zrun 3000 9 94 (0, zloc 94 [(2, 67)], [], 68, wI2)
def wI3 : zW := match iR2 with
  | some r => r.2.2
  | none => fun _ _ => 0
def iFc : List (Int × Int × Int) := [(0, 1, 0), (0, 2, 2), (0, 3, 9), (2, 6, 0), (3, 0, 0), (3, 1, 0), (3, 2, 0), (4, 0, 0), (4, 1, 0), (4, 2, 0), (4, 3, 0), (5, 0, 0), (5, 1, 0), (5, 2, 0), (5, 3, 0), (20, 0, 0), (21, 0, 4), (22, 0, 0), (20, 1, 0), (21, 1, 4), (22, 1, 0), (20, 2, 0), (21, 2, 4), (22, 2, 0), (23, 0, 0), (24, 0, 3), (25, 0, 3), (26, 0, 0), (23, 1, 0), (24, 1, 3), (25, 1, 3), (26, 1, 0), (23, 2, 0), (24, 2, 3), (25, 2, 3), (26, 2, 0), (23, 3, 0), (24, 3, 3), (25, 3, 3), (26, 3, 0), (19, 9, 0), (19, 10, 0), (29, 1, 0), (29, 2, 0), (37, 0, 0), (37, 1, 0), (38, 2, 0), (41, 7, 1), (55, 10, 0), (67, 1, 0), (68, 0, 0), (68, 1, 0), (68, 2, 0), (72, 0, 0), (72, 1, 0), (72, 2, 0), (72, 3, 0), (72, 4, 0), (72, 5, 0), (72, 6, 0), (72, 7, 0), (72, 8, 0), (72, 9, 0), (72, 10, 0), (72, 11, 0), (72, 12, 0), (72, 13, 0), (72, 14, 0), (72, 15, 0), (72, 16, 0), (72, 17, 0), (72, 18, 0), (72, 19, 0), (72, 20, 0), (72, 21, 0), (72, 22, 0), (72, 23, 0), (72, 24, 0), (67, 6, 0), (67, 9, 0), (67, 22, 0), (67, 39, 0), (91, 0, 0), (91, 1, 0)]
theorem iR1_ok : (match iR1 with | some r => decide (r.1 = ((9, 0) : zV)) && decide (r.2.1 = 67) | none => false) = true := by decide +kernel
theorem iR2_ok : (match iR2 with | some r => decide (r.1 = ((9, 0) : zV)) && decide (r.2.1 = 92) && zLkB r.2.2 && iFc.all (fun q => decide (r.2.2 q.1 q.2.1 = q.2.2)) | none => false) = true := by decide +kernel
theorem ini1 : Cl 9 72 [(2, 0)] 1 wI0 = some ((9, 0), 67, wI1) := by
  refine Rn_iff.mpr ⟨3000, ?_⟩
  show iR1 = _
  have h := iR1_ok
  unfold wI1
  cases e : iR1 with
  | none =>
    rw [e] at h
    cases h
  | some r =>
    rw [e] at h
    simp only [Bool.and_eq_true, decide_eq_true_eq] at h
    obtain ⟨a, b, c⟩ := r
    obtain ⟨h1, h2⟩ := h
    dsimp only at h1 h2 ⊢
    rw [h1, h2]
theorem ini2 : Cl 9 94 [(2, 67)] 68 wI2 = some ((9, 0), 92, wI3) ∧ zLkB wI3 = true ∧ ∀ q ∈ iFc, wI3 q.1 q.2.1 = q.2.2 := by
  have h := iR2_ok
  have hh : iR2 = some ((9, 0), 92, wI3) ∧ zLkB wI3 = true ∧ ∀ q ∈ iFc, wI3 q.1 q.2.1 = q.2.2 := by
    unfold wI3
    cases e : iR2 with
    | none =>
      rw [e] at h
      cases h
    | some r =>
      rw [e] at h
      simp only [Bool.and_eq_true, decide_eq_true_eq, List.all_eq_true] at h
      obtain ⟨a, b, c⟩ := r
      obtain ⟨⟨⟨h1, h2⟩, h4⟩, h3⟩ := h
      dsimp only at h1 h2 h3 h4 ⊢
      rw [h1, h2]
      exact ⟨rfl, h4, h3⟩
  exact ⟨Rn_iff.mpr ⟨3000, hh.1⟩, hh.2⟩
theorem ini : ∃ w1 w3 : zW, Cl 9 72 [(2, 0)] 1 wI0 = some ((9, 0), 67, w1) ∧ Cl 9 94 [(2, 67)] 68 (zblank w1 67 (fun j => if ztg 8 j.toNat = 2 then -1 else 0)) = some ((9, 0), 92, w3) ∧ zLkB w3 = true ∧ ∀ q ∈ iFc, w3 q.1 q.2.1 = q.2.2 := ⟨wI1, wI3, ini1, ini2⟩
