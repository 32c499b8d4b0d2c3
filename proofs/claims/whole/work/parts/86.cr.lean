section T3
variable {d : Nat} {w : zW} {x lo hi : Int} {L : Tk} {n : Nat}
theorem i2c_n : ∀ n : Nat, n < 256 → z_i2c n = n := by decide +kernel
theorem i2c_id {c : Int} (h0 : 0 ≤ c) (h : c ≤ 255) : z_i2c c = c := by
  have := i2c_n c.toNat (by omega)
  rw [show ((c.toNat : Nat) : Int) = c by omega] at this
  exact this
theorem zix0 (c : Int) : zix (0 : Int).toNat c < 0 ↔ ¬ is13 c := by
  show zixF c [118, 116, 114, 115, 105, 119, 98, 107, 113, 108, 117, 120, 59] 0 < 0 ↔ _
  simp only [zixF]
  repeat' split
  all_goals omega
theorem zix1 (c : Int) : zix (1 : Int).toNat c < 0 ↔ ¬ is9 c := by
  show zixF c [115, 105, 119, 98, 107, 113, 108, 117, 120] 0 < 0 ↔ _
  simp only [zixF]
  repeat' split
  all_goals omega
abbrev is5 (c : Int) : Prop := c = 115 ∨ c = 119 ∨ c = 98 ∨ c = 107 ∨ c = 113
theorem zix2 (c : Int) : zix (2 : Int).toNat c < 0 ↔ ¬ is5 c := by
  show zixF c [115, 119, 98, 107, 113] 0 < 0 ↔ _
  simp only [zixF]
  repeat' split
  all_goals omega
def adv (w : zW) : zW := zup w 16 3 (w 16 3 + 1)
def CR (w : zW) (L : Tk) : Prop := 0 ≤ w 16 3 ∧ w 16 3 + L.length ≤ 121 ∧ ∀ i : Nat, i < L.length → w 17 (w 16 3 + i) = (L.getD i (-1, 0)).1 ∧ w 18 (w 16 3 + i) = (L.getD i (-1, 0)).2
theorem CR.hd (h : CR w L) (hl : 0 < L.length) : w 17 (w 16 3) = hk L ∧ w 18 (w 16 3) = hs L := by
  have := h.2.2 0 hl
  rw [show w 16 3 + ((0 : Nat) : Int) = w 16 3 by omega] at this
  cases L with
  | nil => exact absurd hl (Nat.lt_irrefl _)
  | cons y L => exact this
theorem CR.av (h : CR w L) (hl : 0 < L.length) : CR (adv w) L.tail := by
  have e : adv w 16 3 = w 16 3 + 1 := zup_self ..
  have e7 : adv w 17 = w 17 := zup_ne (by omega)
  have e8 : adv w 18 = w 18 := zup_ne (by omega)
  unfold CR
  rw [e, e7, e8]
  cases L with
  | nil => exact absurd hl (Nat.lt_irrefl _)
  | cons y L =>
    obtain ⟨h1, h2, h3⟩ := h
    rw [List.length_cons] at h2 h3
    refine ⟨by omega, by rw [List.tail_cons]; omega, fun i hi => ?_⟩
    rw [List.tail_cons] at hi
    have := h3 (i + 1) (by omega)
    rw [show w 16 3 + ((i + 1 : Nat) : Int) = w 16 3 + 1 + i by omega] at this
    exact this
theorem CR.at {w' : zW} (h : CR w L) (e : w' 16 3 = w 16 3) (e7 : w' 17 = w 17) (e8 : w' 18 = w 18) : CR w' L := by
  unfold CR
  rw [e, e7, e8]
  exact h
theorem r_token (h : CR w L) (hl : 0 < L.length) : Cl d 9 [(2, 16)] 92 w = some ((0, hk L), 92, w) := by
  have zo16 := zo_16; have zo17 := zo_17; have zl17 := zl_17
  have e := (h.hd hl).1
  have h1 := h.1
  have h2 := h.2.1
  show Rn d 9 0 [(2, 16)] [] 92 w = _
  simp (disch := first | assumption | omega | (simp only [zcat_0, zcat_i, zcat_l, zcat_r, zcat_t]; omega) | simp) only [e_X1_token_0, e_X1_token_1, e_X1_token_4, e_X1_token_7, e_X1_token_8, e_X1_token_11, e_X1_token_13, e_X1_token_16, e_X1_token_17, e_X1_token_20, e_X1_token_21, e_X1_token_24, e_X1_token_25, e_X1_token_28, e_X1_token_29, zpush_i, zpush_l, zpush_v, Option.bind_some, ↓if_pos, ↓if_neg, Int.reduceAdd, w32_id, e]
theorem r_start (h : CR w L) (hl : 0 < L.length) : Cl d 10 [(2, 16)] 92 w = some ((0, hs L), 92, w) := by
  have zo16 := zo_16; have zo18 := zo_18; have zl18 := zl_18
  have e := (h.hd hl).2
  have h1 := h.1
  have h2 := h.2.1
  show Rn d 10 0 [(2, 16)] [] 92 w = _
  simp (disch := first | assumption | omega | (simp only [zcat_0, zcat_i, zcat_l, zcat_r, zcat_t]; omega) | simp) only [e_X1_start_0, e_X1_start_1, e_X1_start_4, e_X1_start_7, e_X1_start_8, e_X1_start_11, e_X1_start_13, e_X1_start_16, e_X1_start_17, e_X1_start_20, e_X1_start_21, e_X1_start_24, e_X1_start_25, e_X1_start_28, e_X1_start_30, zpush_i, zpush_l, zpush_v, Option.bind_some, ↓if_pos, ↓if_neg, Int.reduceAdd, w32_id, e]
theorem r_number (h : CR w L) (hl : 0 < L.length) : Cl (d + 1) 16 [(2, 16), (0, lo), (0, hi)] 92 w = some (if lo ≤ hk L ∧ hk L ≤ hi then ((0, hk L), 92, adv w) else ((0, -1), 92, w)) := by
  have zo16 := zo_16
  have et := r_token (d := d) h hl
  have h1 := h.1
  have h2 := h.2.1
  show Rn (d + 1) 16 0 [(2, 16), (0, lo), (0, hi), (9, 0)] [] 92 w = _
  by_cases c : lo ≤ hk L ∧ hk L ≤ hi
  · rw [if_pos c]
    simp (disch := first | assumption | omega | (simp only [zcat_0, zcat_i, zcat_l, zcat_r, zcat_t]; omega) | simp) only [e_X1_takeNumber_0, e_X1_takeNumber_1, e_X1_takeNumber_4, e_X1_takeNumber_5, e_X1_takeNumber_6, e_X1_takeNumber_7, e_X1_takeNumber_10, e_X1_takeNumber_11, e_X1_takeNumber_12, e_X1_takeNumber_15, e_X1_takeNumber_16, e_X1_takeNumber_17, e_X1_takeNumber_18, e_X1_takeNumber_19, e_X1_takeNumber_22, e_X1_takeNumber_23, e_X1_takeNumber_24, e_X1_takeNumber_27, e_X1_takeNumber_28, zpush_i, zpush_l, zpush_v, Option.bind_some, ↓if_pos, ↓if_neg, Int.reduceAdd, w32_id, et]
    rfl
  · rw [if_neg c]
    by_cases c1 : hk L < lo
    · simp (disch := first | assumption | omega | (simp only [zcat_0, zcat_i, zcat_l, zcat_r, zcat_t]; omega) | simp) only [e_X1_takeNumber_0, e_X1_takeNumber_1, e_X1_takeNumber_4, e_X1_takeNumber_5, e_X1_takeNumber_6, e_X1_takeNumber_7, e_X1_takeNumber_10, e_X1_takeNumber_11, e_X1_takeNumber_12, e_X1_takeNumber_15, e_X1_takeNumber_16, zpush_i, zpush_l, zpush_v, Option.bind_some, ↓if_pos, ↓if_neg, Int.reduceAdd, w32_id, et]
    · simp (disch := first | assumption | omega | (simp only [zcat_0, zcat_i, zcat_l, zcat_r, zcat_t]; omega) | simp) only [e_X1_takeNumber_0, e_X1_takeNumber_1, e_X1_takeNumber_4, e_X1_takeNumber_5, e_X1_takeNumber_6, e_X1_takeNumber_7, e_X1_takeNumber_10, e_X1_takeNumber_11, e_X1_takeNumber_12, e_X1_takeNumber_15, e_X1_takeNumber_16, zpush_i, zpush_l, zpush_v, Option.bind_some, ↓if_pos, ↓if_neg, Int.reduceAdd, w32_id, et]
theorem r_end (h : CR w L) (hl : 0 < L.length) : Cl (d + 1) 17 [(2, 16)] 92 w = some (if hk L = 59 then ((0, 1), 92, adv w) else ((0, 0), 92, w)) := by
  have zo16 := zo_16
  have et := r_token (d := d) h hl
  have h1 := h.1
  have h2 := h.2.1
  show Rn (d + 1) 17 0 [(2, 16)] [] 92 w = _
  by_cases c : hk L = 59
  · rw [if_pos c]
    simp (disch := first | assumption | omega | (simp only [zcat_0, zcat_i, zcat_l, zcat_r, zcat_t]; omega) | simp) only [e_X1_takeEnd_0, e_X1_takeEnd_1, e_X1_takeEnd_4, e_X1_takeEnd_6, e_X1_takeEnd_9, e_X1_takeEnd_10, e_X1_takeEnd_11, e_X1_takeEnd_12, e_X1_takeEnd_13, e_X1_takeEnd_16, e_X1_takeEnd_17, e_X1_takeEnd_18, e_X1_takeEnd_21, e_X1_takeEnd_22, zpush_i, zpush_l, zpush_v, Option.bind_some, ↓if_pos, ↓if_neg, Int.reduceAdd, w32_id, et]
    rfl
  · rw [if_neg c]
    simp (disch := first | assumption | omega | (simp only [zcat_0, zcat_i, zcat_l, zcat_r, zcat_t]; omega) | simp) only [e_X1_takeEnd_0, e_X1_takeEnd_1, e_X1_takeEnd_4, e_X1_takeEnd_6, e_X1_takeEnd_9, e_X1_takeEnd_10, zpush_i, zpush_l, zpush_v, Option.bind_some, ↓if_pos, ↓if_neg, Int.reduceAdd, w32_id, et]
theorem r_kindOf {c : Int} (h0 : 0 ≤ c) (h : c ≤ 255) : Cl (d + 5) 7 [(0, c)] 92 w = some ((0, if c = 32 then -3 else if dg c then c - 48 else kd c), 92, w) := by
  have ei := i2c_id h0 h
  have hz := zix0 c
  show Rn (d + 5) 7 0 [(0, c)] [] 92 w = _
  by_cases c1 : c = 32
  · rw [if_pos c1]
    simp (disch := first | assumption | omega | (simp only [zcat_0, zcat_i, zcat_l, zcat_r, zcat_t]; omega) | simp) only [e_X1_kindOf_0, e_X1_kindOf_1, e_X1_kindOf_3, e_X1_kindOf_6, e_X1_kindOf_8, zpush_i, zpush_l, zpush_v, Option.bind_some, ↓if_pos, ↓if_neg, Int.reduceAdd, w32_id]
  rw [if_neg c1]
  by_cases c2 : dg c
  · rw [if_pos c2]
    simp (disch := first | assumption | omega | (simp only [zcat_0, zcat_i, zcat_l, zcat_r, zcat_t]; omega) | simp) only [e_X1_kindOf_0, e_X1_kindOf_1, e_X1_kindOf_3, e_X1_kindOf_6, e_X1_kindOf_8, e_X1_kindOf_9, e_X1_kindOf_10, e_X1_kindOf_12, e_X1_kindOf_15, e_X1_kindOf_16, e_X1_kindOf_18, e_X1_kindOf_21, e_X1_kindOf_22, e_X1_kindOf_24, e_X1_kindOf_25, zpush_i, zpush_l, zpush_v, Option.bind_some, ↓if_pos, ↓if_neg, Int.reduceAdd, w32_id]
  rw [if_neg c2]
  unfold kd
  by_cases c3 : is13 c
  · rw [if_pos c3]
    have hz' : ¬ zix (0 : Int).toNat c < 0 := fun z => hz.mp z c3
    by_cases c4 : c < 48
    · exfalso
      omega
    · simp (disch := first | assumption | omega | (simp only [zcat_0, zcat_i, zcat_l, zcat_r, zcat_t]; omega) | simp) only [e_X1_kindOf_0, e_X1_kindOf_1, e_X1_kindOf_3, e_X1_kindOf_6, e_X1_kindOf_8, e_X1_kindOf_9, e_X1_kindOf_10, e_X1_kindOf_12, e_X1_kindOf_15, e_X1_kindOf_16, e_X1_kindOf_18, e_X1_kindOf_21, e_X1_kindOf_22, e_X1_kindOf_24, e_X1_kindOf_25, e_X1_kindOf_26, e_X1_kindOf_28, e_X1_kindOf_29, e_X1_kindOf_30, e_X1_kindOf_33, e_X1_kindOf_36, e_X1_kindOf_37, e_X1_kindOf_40, e_X1_kindOf_42, zpush_i, zpush_l, zpush_v, Option.bind_some, ↓if_pos, ↓if_neg, Int.reduceAdd, w32_id, ei]
  · rw [if_neg c3]
    have hz' : zix (0 : Int).toNat c < 0 := hz.mpr c3
    by_cases c4 : c < 48
    · simp (disch := first | assumption | omega | (simp only [zcat_0, zcat_i, zcat_l, zcat_r, zcat_t]; omega) | simp) only [e_X1_kindOf_0, e_X1_kindOf_1, e_X1_kindOf_3, e_X1_kindOf_6, e_X1_kindOf_8, e_X1_kindOf_9, e_X1_kindOf_10, e_X1_kindOf_12, e_X1_kindOf_15, e_X1_kindOf_16, e_X1_kindOf_18, e_X1_kindOf_21, e_X1_kindOf_22, e_X1_kindOf_24, e_X1_kindOf_25, e_X1_kindOf_26, e_X1_kindOf_28, e_X1_kindOf_29, e_X1_kindOf_30, e_X1_kindOf_33, e_X1_kindOf_36, e_X1_kindOf_37, e_X1_kindOf_40, e_X1_kindOf_42, zpush_i, zpush_l, zpush_v, Option.bind_some, ↓if_pos, ↓if_neg, Int.reduceAdd, w32_id, ei]
    · simp (disch := first | assumption | omega | (simp only [zcat_0, zcat_i, zcat_l, zcat_r, zcat_t]; omega) | simp) only [e_X1_kindOf_0, e_X1_kindOf_1, e_X1_kindOf_3, e_X1_kindOf_6, e_X1_kindOf_8, e_X1_kindOf_9, e_X1_kindOf_10, e_X1_kindOf_12, e_X1_kindOf_15, e_X1_kindOf_16, e_X1_kindOf_18, e_X1_kindOf_21, e_X1_kindOf_22, e_X1_kindOf_24, e_X1_kindOf_25, e_X1_kindOf_26, e_X1_kindOf_28, e_X1_kindOf_29, e_X1_kindOf_30, e_X1_kindOf_33, e_X1_kindOf_36, e_X1_kindOf_37, e_X1_kindOf_40, e_X1_kindOf_42, zpush_i, zpush_l, zpush_v, Option.bind_some, ↓if_pos, ↓if_neg, Int.reduceAdd, w32_id, ei]
end T3
