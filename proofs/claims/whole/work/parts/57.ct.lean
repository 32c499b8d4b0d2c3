section T1
variable {d : Nat} {w : zW} {n p : Int} {S : Sc} {P : Pg} {L : BL} {a : Int → Int}
def fE (S : Sc) : Nat → Int
  | 0 => 1
  | t + 1 => if fE S t ≠ 0 ∧ S.1 (13 + t) ≠ 0 then 1 else 0
def fD (S : Sc) : Nat → Int
  | 0 => 1
  | t + 1 => if fD S t ≠ 0 ∧ S.1 (13 + t) = 7 then 1 else 0
theorem fE_in (S : Sc) : ∀ t : Nat, fE S t = 0 ∨ fE S t = 1
  | 0 => Or.inr rfl
  | t + 1 => by rw [fE]; split <;> simp
theorem fD_in (S : Sc) : ∀ t : Nat, fD S t = 0 ∨ fD S t = 1
  | 0 => Or.inr rfl
  | t + 1 => by rw [fD]; split <;> simp
theorem fE_4 (S : Sc) : fE S 4 = if bEnd S then 1 else 0 := by
  have s0 : fE S 1 = if S.1 13 ≠ 0 then 1 else 0 := by
    show (if (1 : Int) ≠ 0 ∧ S.1 13 ≠ 0 then (1 : Int) else 0) = _
    by_cases h : S.1 13 = 0
    · rw [if_neg (fun z => z.2 h), if_neg (fun z => z h)]
    · rw [if_pos ⟨by omega, h⟩, if_pos h]
  have s1 : fE S 2 = if fE S 1 ≠ 0 ∧ S.1 14 ≠ 0 then 1 else 0 := rfl
  have s2 : fE S 3 = if fE S 2 ≠ 0 ∧ S.1 15 ≠ 0 then 1 else 0 := rfl
  have s3 : fE S 4 = if fE S 3 ≠ 0 ∧ S.1 16 ≠ 0 then 1 else 0 := rfl
  by_cases h0 : S.1 13 = 0 <;> by_cases h1 : S.1 14 = 0 <;> by_cases h2 : S.1 15 = 0 <;> by_cases h3 : S.1 16 = 0 <;> simp [s3, s2, s1, s0, h0, h1, h2, h3, bEnd]
theorem fD_4 (S : Sc) : fD S 4 = if bDn S then 1 else 0 := by
  have s0 : fD S 1 = if S.1 13 = 7 then 1 else 0 := by
    show (if (1 : Int) ≠ 0 ∧ S.1 13 = 7 then (1 : Int) else 0) = _
    by_cases h : S.1 13 = 7
    · rw [if_pos ⟨by omega, h⟩, if_pos h]
    · rw [if_neg (fun z => h z.2), if_neg h]
  have s1 : fD S 2 = if fD S 1 ≠ 0 ∧ S.1 14 = 7 then 1 else 0 := rfl
  have s2 : fD S 3 = if fD S 2 ≠ 0 ∧ S.1 15 = 7 then 1 else 0 := rfl
  have s3 : fD S 4 = if fD S 3 ≠ 0 ∧ S.1 16 = 7 then 1 else 0 := rfl
  by_cases h0 : S.1 13 = 7 <;> by_cases h1 : S.1 14 = 7 <;> by_cases h2 : S.1 15 = 7 <;> by_cases h3 : S.1 16 = 7 <;> simp [s3, s2, s1, s0, h0, h1, h2, h3, bDn]
theorem fE_n (hP : WP P) (hW : WS0 P S) : ∀ t : Nat, t ≤ 4 → P 0 6 ≤ t → fE S t = fE S (P 0 6).toNat
  | 0, _, h => by rw [show (P 0 6).toNat = 0 by omega]
  | t + 1, h4, h => by
    by_cases e : P 0 6 = t + 1
    · rw [e]; rfl
    · rw [← fE_n hP hW t (by omega) (by omega), fE]
      have := how7 (t := (t : Int)) hW hP (by omega) (by omega) (by omega)
      rcases fE_in S t with c | c
      · rw [if_neg (by omega), c]
      · rw [if_pos (by omega), c]
theorem fD_n (hP : WP P) (hW : WS0 P S) : ∀ t : Nat, t ≤ 4 → P 0 6 ≤ t → fD S t = fD S (P 0 6).toNat
  | 0, _, h => by rw [show (P 0 6).toNat = 0 by omega]
  | t + 1, h4, h => by
    by_cases e : P 0 6 = t + 1
    · rw [e]; rfl
    · rw [← fD_n hP hW t (by omega) (by omega), fD]
      have := how7 (t := (t : Int)) hW hP (by omega) (by omega) (by omega)
      rcases fD_in S t with c | c
      · rw [if_neg (by omega), c]
      · rw [if_pos (by omega), c]
theorem m_end_l (hP : WP P) (hR : RS w (P 0 6) S) (hO : PO w P) : ∀ (u t : Nat), (t : Int) + u = P 0 6 → Rn d 128 4 [(2, 67), (0, fE S t), (0, (t : Int))] [] 92 w = some ((0, fE S (P 0 6).toNat), 92, w) := by
  have zo67 := zo_67; have zo72 := zo_72; have zl72 := zl_72
  have hP4 := hP.2.1
  have e1 := hO.1
  intro u
  induction u with
  | zero =>
    intro t ht
    have et : (t : Int) = P 0 6 := by omega
    have hb := fE_in S (P 0 6).toNat
    rw [show t = (P 0 6).toNat by omega, show (((P 0 6).toNat : Nat) : Int) = P 0 6 by omega]
    simp (disch := first | assumption | omega | (simp only [zcat_0, zcat_i, zcat_l, zcat_r, zcat_t]; omega) | simp) only [e_X8_isEnd_4, e_X8_isEnd_5, e_X8_isEnd_6, e_X8_isEnd_9, e_X8_isEnd_40, e_X8_isEnd_41, zpush_i, zpush_l, zpush_v, Option.bind_some, ↓if_pos, ↓if_neg, Int.reduceAdd, w32_id, e1]
  | succ u ih =>
    intro t ht
    have hh := (hR.2.1 t (by omega) (by omega)).1
    rw [if_pos (by omega)] at hh
    rw [← ih (t + 1) (by omega), show ((t + 1 : Nat) : Int) = (t : Int) + 1 by omega, e_X8_isEnd_4, fE]
    rcases fE_in S t with c | c
    · rw [if_neg (by omega), c]
      simp (disch := first | assumption | omega | (simp only [zcat_0, zcat_i, zcat_l, zcat_r, zcat_t]; omega) | simp) only [e_X8_isEnd_5, e_X8_isEnd_6, e_X8_isEnd_9, e_X8_isEnd_12, e_X8_isEnd_13, e_X8_isEnd_16, e_X8_isEnd_17, e_X8_isEnd_20, e_X8_isEnd_22, e_X8_isEnd_23, e_X8_isEnd_24, e_X8_isEnd_25, e_X8_isEnd_28, e_X8_isEnd_29, e_X8_isEnd_32, e_X8_isEnd_33, e_X8_isEnd_34, e_X8_isEnd_37, zpush_i, zpush_l, zpush_v, Option.bind_some, ↓if_pos, ↓if_neg, Int.reduceAdd, w32_id, e1]
    · by_cases h : S.1 (13 + (t : Int)) = 0
      · rw [if_neg (by omega), c]
        rw [h] at hh
        simp (disch := first | assumption | omega | (simp only [zcat_0, zcat_i, zcat_l, zcat_r, zcat_t]; omega) | simp) only [e_X8_isEnd_5, e_X8_isEnd_6, e_X8_isEnd_9, e_X8_isEnd_12, e_X8_isEnd_13, e_X8_isEnd_16, e_X8_isEnd_17, e_X8_isEnd_20, e_X8_isEnd_22, e_X8_isEnd_23, e_X8_isEnd_24, e_X8_isEnd_25, e_X8_isEnd_28, e_X8_isEnd_29, e_X8_isEnd_32, e_X8_isEnd_33, e_X8_isEnd_34, e_X8_isEnd_37, zpush_i, zpush_l, zpush_v, Option.bind_some, ↓if_pos, ↓if_neg, Int.reduceAdd, w32_id, e1, hh]
      · rw [if_pos (by omega), c]
        simp (disch := first | assumption | omega | (simp only [zcat_0, zcat_i, zcat_l, zcat_r, zcat_t]; omega) | simp) only [e_X8_isEnd_5, e_X8_isEnd_6, e_X8_isEnd_9, e_X8_isEnd_12, e_X8_isEnd_13, e_X8_isEnd_16, e_X8_isEnd_17, e_X8_isEnd_20, e_X8_isEnd_22, e_X8_isEnd_23, e_X8_isEnd_24, e_X8_isEnd_25, e_X8_isEnd_28, e_X8_isEnd_29, e_X8_isEnd_32, e_X8_isEnd_33, e_X8_isEnd_34, e_X8_isEnd_37, zpush_i, zpush_l, zpush_v, Option.bind_some, ↓if_pos, ↓if_neg, Int.reduceAdd, w32_id, e1, hh]
theorem m_isEnd (hP : WP P) (hW : WS0 P S) (hR : RS w (P 0 6) S) (hO : PO w P) : Cl d 128 [(2, 67)] 92 w = some ((0, if bEnd S then 1 else 0), 92, w) := by
  have hP1 := hP.1
  have hP4 := hP.2.1
  show Rn d 128 0 [(2, 67), (9, 0), (9, 0)] [] 92 w = _
  rw [← fE_4, fE_n hP hW 4 (by omega) (by omega), ← m_end_l (d := d) hP hR hO (P 0 6).toNat 0 (by omega)]
  simp (disch := first | assumption | omega | (simp only [zcat_0, zcat_i, zcat_l, zcat_r, zcat_t]; omega) | simp) only [e_X8_isEnd_0, e_X8_isEnd_1, e_X8_isEnd_2, e_X8_isEnd_3, zpush_i, zpush_l, zpush_v, Option.bind_some, ↓if_pos, ↓if_neg, Int.reduceAdd, w32_id]
  rfl
theorem m_stk_l (hP : WP P) (hR : RS w (P 0 6) S) (hO : PO w P) : ∀ (u t : Nat), (t : Int) + u = P 0 6 → Rn d 129 4 [(2, 67), (0, fD S t), (0, (t : Int))] [] 92 w = Rn d 129 42 [(2, 67), (0, fD S (P 0 6).toNat), (0, P 0 6)] [] 92 w := by
  have zo67 := zo_67; have zo72 := zo_72; have zl72 := zl_72
  have hP4 := hP.2.1
  have e1 := hO.1
  intro u
  induction u with
  | zero =>
    intro t ht
    rw [show t = (P 0 6).toNat by omega, show (((P 0 6).toNat : Nat) : Int) = P 0 6 by omega]
    simp (disch := first | assumption | omega | (simp only [zcat_0, zcat_i, zcat_l, zcat_r, zcat_t]; omega) | simp) only [e_X8_isStuck_4, e_X8_isStuck_5, e_X8_isStuck_6, e_X8_isStuck_9, zpush_i, zpush_l, zpush_v, Option.bind_some, ↓if_pos, ↓if_neg, Int.reduceAdd, w32_id, e1]
  | succ u ih =>
    intro t ht
    have hh := (hR.2.1 t (by omega) (by omega)).1
    rw [if_pos (by omega)] at hh
    rw [← ih (t + 1) (by omega), show ((t + 1 : Nat) : Int) = (t : Int) + 1 by omega, e_X8_isStuck_4, fD]
    rcases fD_in S t with c | c
    · rw [if_neg (by omega), c]
      simp (disch := first | assumption | omega | (simp only [zcat_0, zcat_i, zcat_l, zcat_r, zcat_t]; omega) | simp) only [e_X8_isStuck_5, e_X8_isStuck_6, e_X8_isStuck_9, e_X8_isStuck_12, e_X8_isStuck_13, e_X8_isStuck_16, e_X8_isStuck_17, e_X8_isStuck_20, e_X8_isStuck_22, e_X8_isStuck_23, e_X8_isStuck_24, e_X8_isStuck_25, e_X8_isStuck_27, e_X8_isStuck_30, e_X8_isStuck_31, e_X8_isStuck_34, e_X8_isStuck_35, e_X8_isStuck_36, e_X8_isStuck_39, zpush_i, zpush_l, zpush_v, Option.bind_some, ↓if_pos, ↓if_neg, Int.reduceAdd, w32_id, e1]
    · by_cases h : S.1 (13 + (t : Int)) = 7
      · rw [if_pos (by omega), c]
        rw [h] at hh
        simp (disch := first | assumption | omega | (simp only [zcat_0, zcat_i, zcat_l, zcat_r, zcat_t]; omega) | simp) only [e_X8_isStuck_5, e_X8_isStuck_6, e_X8_isStuck_9, e_X8_isStuck_12, e_X8_isStuck_13, e_X8_isStuck_16, e_X8_isStuck_17, e_X8_isStuck_20, e_X8_isStuck_22, e_X8_isStuck_23, e_X8_isStuck_24, e_X8_isStuck_25, e_X8_isStuck_27, e_X8_isStuck_30, e_X8_isStuck_31, e_X8_isStuck_34, e_X8_isStuck_35, e_X8_isStuck_36, e_X8_isStuck_39, zpush_i, zpush_l, zpush_v, Option.bind_some, ↓if_pos, ↓if_neg, Int.reduceAdd, w32_id, e1, hh]
      · rw [if_neg (by omega), c]
        simp (disch := first | assumption | omega | (simp only [zcat_0, zcat_i, zcat_l, zcat_r, zcat_t]; omega) | simp) only [e_X8_isStuck_5, e_X8_isStuck_6, e_X8_isStuck_9, e_X8_isStuck_12, e_X8_isStuck_13, e_X8_isStuck_16, e_X8_isStuck_17, e_X8_isStuck_20, e_X8_isStuck_22, e_X8_isStuck_23, e_X8_isStuck_24, e_X8_isStuck_25, e_X8_isStuck_27, e_X8_isStuck_30, e_X8_isStuck_31, e_X8_isStuck_34, e_X8_isStuck_35, e_X8_isStuck_36, e_X8_isStuck_39, zpush_i, zpush_l, zpush_v, Option.bind_some, ↓if_pos, ↓if_neg, Int.reduceAdd, w32_id, e1, hh]
theorem m_isStuck (hP : WP P) (hW : WS0 P S) (hR : RS w (P 0 6) S) (hO : PO w P) : Cl (d + 1) 129 [(2, 67)] 92 w = some ((0, if bEnd S ∧ ¬ bDn S then 1 else 0), 92, w) := by
  have zo67 := zo_67
  have hP1 := hP.1
  have hP4 := hP.2.1
  have he := m_isEnd (d := d) hP hW hR hO
  have hl := m_stk_l (d := d + 1) hP hR hO (P 0 6).toNat 0 (by omega)
  rw [← fD_n hP hW 4 (by omega) (by omega), fD_4] at hl
  have hl' : Rn (d + 1) 129 4 [(2, 67), (0, 1), (0, 0)] [] 92 w = _ := hl
  show Rn (d + 1) 129 0 [(2, 67), (9, 0), (9, 0)] [] 92 w = _
  have ea : Rn (d + 1) 129 0 [(2, 67), (9, 0), (9, 0)] [] 92 w = Rn (d + 1) 129 4 [(2, 67), (0, 1), (0, 0)] [] 92 w := by
    simp (disch := first | assumption | omega | (simp only [zcat_0, zcat_i, zcat_l, zcat_r, zcat_t]; omega) | simp) only [e_X8_isStuck_0, e_X8_isStuck_1, e_X8_isStuck_2, e_X8_isStuck_3, zpush_i, zpush_l, zpush_v, Option.bind_some, ↓if_pos, ↓if_neg, Int.reduceAdd, w32_id]
  rw [ea, hl']
  by_cases h1 : bEnd S
  · rw [if_pos h1] at he
    by_cases h2 : bDn S
    · rw [if_pos h2, if_neg (fun z => z.2 h2)]
      simp (disch := first | assumption | omega | (simp only [zcat_0, zcat_i, zcat_l, zcat_r, zcat_t]; omega) | simp) only [e_X8_isStuck_42, e_X8_isStuck_43, e_X8_isStuck_46, e_X8_isStuck_49, e_X8_isStuck_50, e_X8_isStuck_53, e_X8_isStuck_54, e_X8_isStuck_57, e_X8_isStuck_58, zpush_i, zpush_l, zpush_v, Option.bind_some, ↓if_pos, ↓if_neg, Int.reduceAdd, w32_id, he]
    · rw [if_neg h2, if_pos ⟨h1, h2⟩]
      simp (disch := first | assumption | omega | (simp only [zcat_0, zcat_i, zcat_l, zcat_r, zcat_t]; omega) | simp) only [e_X8_isStuck_42, e_X8_isStuck_43, e_X8_isStuck_46, e_X8_isStuck_49, e_X8_isStuck_50, e_X8_isStuck_53, e_X8_isStuck_54, e_X8_isStuck_57, e_X8_isStuck_58, zpush_i, zpush_l, zpush_v, Option.bind_some, ↓if_pos, ↓if_neg, Int.reduceAdd, w32_id, he]
  · rw [if_neg h1] at he
    rw [if_neg (show ¬ (bEnd S ∧ ¬ bDn S) from fun z => h1 z.1)]
    simp (disch := first | assumption | omega | (simp only [zcat_0, zcat_i, zcat_l, zcat_r, zcat_t]; omega) | simp) only [e_X8_isStuck_42, e_X8_isStuck_43, e_X8_isStuck_46, e_X8_isStuck_49, e_X8_isStuck_50, e_X8_isStuck_53, e_X8_isStuck_54, e_X8_isStuck_57, e_X8_isStuck_58, zpush_i, zpush_l, zpush_v, Option.bind_some, ↓if_pos, ↓if_neg, Int.reduceAdd, w32_id, he]
/-- what has been seen: places and values -/
abbrev Sg : Type := List (Int × Int)
def bF (Q : Sg) (S : Sc) : Prop := ∀ i : Nat, i < Q.length → S.1 (Q.getD i (0, 0)).1 = (Q.getD i (0, 0)).2
def fF (Q : Sg) (S : Sc) : Nat → Int
  | 0 => 1
  | i + 1 => if fF Q S i ≠ 0 ∧ S.1 (Q.getD i (0, 0)).1 = (Q.getD i (0, 0)).2 then 1 else 0
def QG (Q : Sg) : Prop := Q.length ≤ 6 ∧ ∀ i : Nat, i < Q.length → 0 ≤ (Q.getD i (0, 0)).1 ∧ (Q.getD i (0, 0)).1 < 3
def MSg (w : zW) (Q : Sg) : Prop := w 67 39 = Q.length ∧ ∀ i : Nat, i < Q.length → w 88 (2 * i) = (Q.getD i (0, 0)).1 ∧ w 88 (2 * i + 1) = (Q.getD i (0, 0)).2
def CSg (w : zW) (Q : Sg) : Prop := w 38 2 = Q.length ∧ ∀ i : Nat, i < Q.length → w 39 i = (Q.getD i (0, 0)).1 ∧ w 40 i = (Q.getD i (0, 0)).2
theorem fF_in (Q : Sg) (S : Sc) : ∀ t : Nat, fF Q S t = 0 ∨ fF Q S t = 1
  | 0 => Or.inr rfl
  | t + 1 => by rw [fF]; split <;> simp
theorem fF_iff (Q : Sg) (S : Sc) : ∀ t : Nat, fF Q S t = 1 ↔ ∀ i : Nat, i < t → S.1 (Q.getD i (0, 0)).1 = (Q.getD i (0, 0)).2
  | 0 => ⟨fun _ i hi => absurd hi (Nat.not_lt_zero _), fun _ => rfl⟩
  | t + 1 => by
    have ih := fF_iff Q S t
    rw [fF]
    constructor
    · intro h i hi
      split at h
      · next c =>
        by_cases e : i = t
        · subst e; exact c.2
        · have : fF Q S t = 1 := by rcases fF_in Q S t with z | z; exact absurd z c.1; exact z
          exact ih.mp this i (by omega)
      · omega
    · intro h
      have h1 := ih.mpr (fun i hi => h i (by omega))
      rw [if_pos ⟨by omega, h t (by omega)⟩]
theorem m_seen_l {Q : Sg} (hQ : QG Q) (hM : MSg w Q) (hR : RS w n S) : ∀ (u i : Nat), i + u = Q.length → Rn d 132 4 [(2, 67), (0, fF Q S i), (0, (i : Int))] [] 92 w = some ((0, fF Q S Q.length), 92, w) := by
  have zo67 := zo_67; have zo72 := zo_72; have zl72 := zl_72; have zo88 := zo_88; have zl88 := zl_88
  have e1 := hM.1
  have hl := hQ.1
  intro u
  induction u with
  | zero =>
    intro i hi
    obtain rfl : i = Q.length := by omega
    have hb := fF_in Q S Q.length
    simp (disch := first | assumption | omega | (simp only [zcat_0, zcat_i, zcat_l, zcat_r, zcat_t]; omega) | simp) only [e_X8_isSeenSo_4, e_X8_isSeenSo_5, e_X8_isSeenSo_6, e_X8_isSeenSo_9, e_X8_isSeenSo_56, e_X8_isSeenSo_57, zpush_i, zpush_l, zpush_v, Option.bind_some, ↓if_pos, ↓if_neg, Int.reduceAdd, w32_id, e1]
  | succ u ih =>
    intro i hi
    obtain ⟨s1, s2⟩ := hM.2 i (by omega)
    obtain ⟨g1, g2⟩ := hQ.2 i (by omega)
    have hv := hR.1 (Q.getD i (0, 0)).1 g1 (by omega)
    rw [← ih (i + 1) (by omega), show ((i + 1 : Nat) : Int) = (i : Int) + 1 by omega, e_X8_isSeenSo_4, fF]
    have z0 : ∀ x : Int, 0 + x = x := fun x => Int.zero_add x
    rcases fF_in Q S i with c | c
    · rw [if_neg (by omega), c]
      simp (disch := first | assumption | omega | (simp only [zcat_0, zcat_i, zcat_l, zcat_r, zcat_t]; omega) | simp) only [e_X8_isSeenSo_5, e_X8_isSeenSo_6, e_X8_isSeenSo_9, e_X8_isSeenSo_12, e_X8_isSeenSo_13, e_X8_isSeenSo_16, e_X8_isSeenSo_17, e_X8_isSeenSo_20, e_X8_isSeenSo_21, e_X8_isSeenSo_22, e_X8_isSeenSo_25, e_X8_isSeenSo_26, e_X8_isSeenSo_27, e_X8_isSeenSo_28, e_X8_isSeenSo_29, e_X8_isSeenSo_30, e_X8_isSeenSo_31, e_X8_isSeenSo_32, e_X8_isSeenSo_35, e_X8_isSeenSo_36, e_X8_isSeenSo_37, e_X8_isSeenSo_38, e_X8_isSeenSo_39, e_X8_isSeenSo_40, e_X8_isSeenSo_41, e_X8_isSeenSo_44, e_X8_isSeenSo_45, e_X8_isSeenSo_48, e_X8_isSeenSo_49, e_X8_isSeenSo_50, e_X8_isSeenSo_53, zpush_i, zpush_l, zpush_v, Option.bind_some, ↓if_pos, ↓if_neg, Int.reduceAdd, w32_id, e1]
    · by_cases h : S.1 (Q.getD i (0, 0)).1 = (Q.getD i (0, 0)).2
      · rw [if_pos (by omega), c]
        simp (disch := first | assumption | omega | (simp only [zcat_0, zcat_i, zcat_l, zcat_r, zcat_t]; omega) | simp) only [e_X8_isSeenSo_5, e_X8_isSeenSo_6, e_X8_isSeenSo_9, e_X8_isSeenSo_12, e_X8_isSeenSo_13, e_X8_isSeenSo_16, e_X8_isSeenSo_17, e_X8_isSeenSo_20, e_X8_isSeenSo_21, e_X8_isSeenSo_22, e_X8_isSeenSo_25, e_X8_isSeenSo_26, e_X8_isSeenSo_27, e_X8_isSeenSo_28, e_X8_isSeenSo_29, e_X8_isSeenSo_30, e_X8_isSeenSo_31, e_X8_isSeenSo_32, e_X8_isSeenSo_35, e_X8_isSeenSo_36, e_X8_isSeenSo_37, e_X8_isSeenSo_38, e_X8_isSeenSo_39, e_X8_isSeenSo_40, e_X8_isSeenSo_41, e_X8_isSeenSo_44, e_X8_isSeenSo_45, e_X8_isSeenSo_48, e_X8_isSeenSo_49, e_X8_isSeenSo_50, e_X8_isSeenSo_53, zpush_i, zpush_l, zpush_v, Option.bind_some, ↓if_pos, ↓if_neg, Int.reduceAdd, w32_id, e1, s1, s2, z0, hv]
      · rw [if_neg (fun z => h z.2), c]
        simp (disch := first | assumption | omega | (simp only [zcat_0, zcat_i, zcat_l, zcat_r, zcat_t]; omega) | simp) only [e_X8_isSeenSo_5, e_X8_isSeenSo_6, e_X8_isSeenSo_9, e_X8_isSeenSo_12, e_X8_isSeenSo_13, e_X8_isSeenSo_16, e_X8_isSeenSo_17, e_X8_isSeenSo_20, e_X8_isSeenSo_21, e_X8_isSeenSo_22, e_X8_isSeenSo_25, e_X8_isSeenSo_26, e_X8_isSeenSo_27, e_X8_isSeenSo_28, e_X8_isSeenSo_29, e_X8_isSeenSo_30, e_X8_isSeenSo_31, e_X8_isSeenSo_32, e_X8_isSeenSo_35, e_X8_isSeenSo_36, e_X8_isSeenSo_37, e_X8_isSeenSo_38, e_X8_isSeenSo_39, e_X8_isSeenSo_40, e_X8_isSeenSo_41, e_X8_isSeenSo_44, e_X8_isSeenSo_45, e_X8_isSeenSo_48, e_X8_isSeenSo_49, e_X8_isSeenSo_50, e_X8_isSeenSo_53, zpush_i, zpush_l, zpush_v, Option.bind_some, ↓if_pos, ↓if_neg, Int.reduceAdd, w32_id, e1, s1, s2, z0, hv]
theorem m_seen {Q : Sg} (hQ : QG Q) (hM : MSg w Q) (hR : RS w n S) : Cl d 132 [(2, 67)] 92 w = some ((0, fF Q S Q.length), 92, w) := by
  show Rn d 132 0 [(2, 67), (9, 0), (9, 0)] [] 92 w = _
  rw [← m_seen_l (d := d) hQ hM hR Q.length 0 (by omega)]
  simp (disch := first | assumption | omega | (simp only [zcat_0, zcat_i, zcat_l, zcat_r, zcat_t]; omega) | simp) only [e_X8_isSeenSo_0, e_X8_isSeenSo_1, e_X8_isSeenSo_2, e_X8_isSeenSo_3, zpush_i, zpush_l, zpush_v, Option.bind_some, ↓if_pos, ↓if_neg, Int.reduceAdd, w32_id]
  rfl
end T1
