section T8
variable {d : Nat} {w : zW} {j : Int} {L : Tk} {n : Nat} {D : Pg} {T : List Int}
def emp (D : Pg) : Pg := zup (zup (zup (zup (zup (zup (zup (zup (zup (zup (zup (zup D 1 0 0) 1 1 0) 1 2 0) 2 0 0) 3 0 0) 2 1 0) 3 1 0) 2 2 0) 3 2 0) 2 3 0) 3 3 0) 0 6 0
theorem WD_emp (D : Pg) : WD (emp D) := by
  have e0 : emp D 0 6 = 0 := zup_self ..
  have e1 : ∀ p, 0 ≤ p → p < 3 → emp D 1 p = 0 := fun p h0 h3 => by
    unfold emp
    simp only [zup]
    rcases (by omega : p = 0 ∨ p = 1 ∨ p = 2) with rfl | rfl | rfl <;> simp
  have e2 : ∀ p, 0 ≤ p → p < 4 → emp D 2 p = 0 := fun p h0 h3 => by
    unfold emp
    simp only [zup]
    rcases (by omega : p = 0 ∨ p = 1 ∨ p = 2 ∨ p = 3) with rfl | rfl | rfl | rfl <;> simp
  have e3 : ∀ p, 0 ≤ p → p < 4 → emp D 3 p = 0 := fun p h0 h3 => by
    unfold emp
    simp only [zup]
    rcases (by omega : p = 0 ∨ p = 1 ∨ p = 2 ∨ p = 3) with rfl | rfl | rfl | rfl <;> simp
  refine ⟨⟨by omega, by omega, fun p h0 h3 => by rw [e1 p h0 h3]; omega, fun t h0 h4 => ?_, fun t i h0 h4 i0 il => ?_⟩, fun t h0 h4 => e2 t (by omega) h4⟩
  · rw [e2 t h0 h4, e3 t h0 h4]
    omega
  · rw [e3 t h0 h4] at il
    omega
theorem r_tempty (hj : isT j) (hT : TO w j D) : ∃ w', Cl d 66 [(2, j)] 92 w = some ((9, 0), 92, w') ∧ TO w' j (emp D) ∧ FD j w w' ∧ (∀ a, (a < j ∨ j + 6 < a) → w' a = w a) := by
  obtain ⟨t0, tn, t1, u1, t2, u2, t3, u3, t4, u4, t5, u5, t6, u6⟩ := sTall hj
  have h := (((((((((((hT.up (a := 1) (i := 0) (x := 0) (by omega) (by omega)).up (a := 1) (i := 1) (x := 0) (by omega) (by omega)).up (a := 1) (i := 2) (x := 0) (by omega) (by omega)).up (a := 2) (i := 0) (x := 0) (by omega) (by omega)).up (a := 3) (i := 0) (x := 0) (by omega) (by omega)).up (a := 2) (i := 1) (x := 0) (by omega) (by omega)).up (a := 3) (i := 1) (x := 0) (by omega) (by omega)).up (a := 2) (i := 2) (x := 0) (by omega) (by omega)).up (a := 3) (i := 2) (x := 0) (by omega) (by omega)).up (a := 2) (i := 3) (x := 0) (by omega) (by omega)).up (a := 3) (i := 3) (x := 0) (by omega) (by omega)).up (a := 0) (i := 6) (x := 0) (by omega) (by omega)
  rw [Int.add_zero] at h
  have hf : ∀ a, (a < j ∨ j + 6 < a) → zup (zup (zup (zup (zup (zup (zup (zup (zup (zup (zup (zup w (j + 1) 0 0) (j + 1) 1 0) (j + 1) 2 0) (j + 2) 0 0) (j + 3) 0 0) (j + 2) 1 0) (j + 3) 1 0) (j + 2) 2 0) (j + 3) 2 0) (j + 2) 3 0) (j + 3) 3 0) j 6 0 a = w a := fun a h2 => by
    rw [zup_ne (by omega), zup_ne (by omega), zup_ne (by omega), zup_ne (by omega), zup_ne (by omega), zup_ne (by omega), zup_ne (by omega), zup_ne (by omega), zup_ne (by omega), zup_ne (by omega), zup_ne (by omega), zup_ne (by omega)]
  refine ⟨_, ?_, h, fun a i _ h2 => by rw [hf a h2], hf⟩
  clear h hf
  show Rn d 66 0 [(2, j), (9, 0)] [] 92 w = _
  simp (disch := first | assumption | omega | (simp only [zcat_0, zcat_i, zcat_l, zcat_r, zcat_t]; omega) | simp) only [e_X6_empty_0, e_X6_empty_1, e_X6_empty_2, e_X6_empty_3, e_X6_empty_4, e_X6_empty_7, e_X6_empty_8, e_X6_empty_11, e_X6_empty_12, e_X6_empty_13, e_X6_empty_14, e_X6_empty_17, e_X6_empty_20, e_X6_empty_21, e_X6_empty_22, e_X6_empty_23, e_X6_empty_24, e_X6_empty_27, e_X6_empty_28, e_X6_empty_31, e_X6_empty_32, e_X6_empty_33, e_X6_empty_34, e_X6_empty_35, e_X6_empty_38, e_X6_empty_39, e_X6_empty_40, e_X6_empty_41, e_X6_empty_44, e_X6_empty_47, e_X6_empty_48, e_X6_empty_49, e_X6_empty_52, zpush_i, zpush_l, zpush_v, Option.bind_some, ↓if_pos, ↓if_neg, Int.reduceAdd, w32_id]
theorem aRead_stop {u : Nat} {k : Int} (h : hk L = -1) : aRead u k D L = (k, L, D) := by
  cases u with
  | zero => rfl
  | succ u => rw [aRead, if_pos h]
theorem r_rd_l (hj : isT j) (hn : n ≤ 120) {v1 v2 : zV} : ∀ (u : Nat) (k : Int) (w : zW) (D : Pg) (L : Tk), L.length ≤ u → 0 ≤ k → k + L.length ≤ 121 → CR w L → gT n L → TO w j D → WD D → ∃ w', Rn (d + 8) 5 28 [(2, 16), v1, v2, (2, j), (0, k)] [] 92 w = some ((0, (aRead u k D L).1), 92, w') ∧ TO w' j (aRead u k D L).2.2 ∧ WD (aRead u k D L).2.2 ∧ FD j w w' ∧ (0 ≤ (aRead u k D L).1 → (aRead u k D L).1 ≤ 120) := by
  have zo16 := zo_16
  obtain ⟨t0, tn, t1, u1, t2, u2, t3, u3, t4, u4, t5, u5, t6, u6⟩ := sTall hj
  intro u
  induction u with
  | zero =>
    intro k w D L hl k0 hk' hC hg hT hD
    have := hg.ne
    omega
  | succ u ih =>
    intro k w D L hl k0 hk' hC hg hT hD
    have et := r_token (d := d + 7) hC hg.ne
    have hne := hg.ne
    rw [aRead]
    rw [e_X1_read_28]
    by_cases c : hk L = -1
    · rw [if_pos c]
      refine ⟨w, ?_, hT, hD, .rf, fun _ => by dsimp only; omega⟩
      simp (disch := first | assumption | omega | (simp only [zcat_0, zcat_i, zcat_l, zcat_r, zcat_t]; omega) | simp) only [e_X1_read_30, e_X1_read_32, e_X1_read_35, e_X1_read_36, e_X1_read_39, e_X1_read_40, e_X1_read_65, e_X1_read_67, zpush_i, zpush_l, zpush_v, Option.bind_some, ↓if_pos, ↓if_neg, Int.reduceAdd, w32_id, et]
    rw [if_neg c]
    obtain ⟨w1, q1, q2, q3, q4⟩ := r_takeItem (d := d) hj hC hg c hT hD
    have r1 := aItem_g hg hD
    by_cases c0 : (aItem D L).1 = 0
    · rw [if_pos c0]
      have es := r_start (d := d + 7) q2 r1.1.ne
      have hr := r1.1.hk
      refine ⟨w1, ?_, q3, r1.2.2.1, q4, fun z => by dsimp only at z ⊢; omega⟩
      rw [c0] at q1
      simp (disch := first | assumption | omega | (simp only [zcat_0, zcat_i, zcat_l, zcat_r, zcat_t]; omega) | simp) only [e_X1_read_30, e_X1_read_32, e_X1_read_35, e_X1_read_36, e_X1_read_39, e_X1_read_40, e_X1_read_43, e_X1_read_44, e_X1_read_45, e_X1_read_48, e_X1_read_51, e_X1_read_53, e_X1_read_54, e_X1_read_57, e_X1_read_58, zpush_i, zpush_l, zpush_v, Option.bind_some, ↓if_pos, ↓if_neg, Int.reduceAdd, w32_id, et, q1, es]
    rw [if_neg c0]
    have e1 : (aItem D L).1 = 1 ∧ (aItem D L).2.1.length < L.length := by
      rcases r1.2.2.2 with z | z
      · exact absurd z c0
      · exact z
    have hl2 := e1.2
    obtain ⟨w2, s1, s2, s3, s4, s5⟩ := ih (k + 1) w1 _ _ (by omega) (by omega) (by omega) q2 r1.1 q3 r1.2.2.1
    refine ⟨w2, ?_, s2, s3, q4.tr s4, s5⟩
    rw [e1.1] at q1
    simp (disch := first | assumption | omega | (simp only [zcat_0, zcat_i, zcat_l, zcat_r, zcat_t]; omega) | simp) only [e_X1_read_30, e_X1_read_32, e_X1_read_35, e_X1_read_36, e_X1_read_39, e_X1_read_40, e_X1_read_43, e_X1_read_44, e_X1_read_45, e_X1_read_48, e_X1_read_51, e_X1_read_53, e_X1_read_54, e_X1_read_57, e_X1_read_58, e_X1_read_59, e_X1_read_62, zpush_i, zpush_l, zpush_v, Option.bind_some, ↓if_pos, ↓if_neg, Int.reduceAdd, w32_id, et, q1]
    exact s1
/-- what a text tells -/
def aText (T : List Int) (D : Pg) : Ps := aRead 121 0 (emp D) (tk (aT0 T) T.length 0)
theorem r_read (hj : isT j) (hT : TO w j D) (hX : CX0 w T) (hl : T.length ≤ 120) (hx : ∀ x, x ∈ T → 0 ≤ x ∧ x ≤ 255) : ∃ w', Cl (d + 8) 5 [(2, 16), (2, 1), (0, (T.length : Int)), (2, j)] 92 w = some ((0, (aText T D).1), 92, w') ∧ TO w' j (aText T D).2.2 ∧ WD (aText T D).2.2 ∧ (∀ a i, (a < 16 ∨ 18 < a) → (a < j ∨ j + 6 < a) → w' a i = w a i) ∧ (0 ≤ (aText T D).1 → (aText T D).1 ≤ 120) := by
  have zo16 := zo_16; have zo1 := zo_1; have zl1 := zl_1
  obtain ⟨t0, tn, t1, u1, t2, u2, t3, u3, t4, u4, t5, u5, t6, u6⟩ := sTall hj
  have k1 : 20 ≤ (zsh 1).1 ∧ (zsh 1).1 ≤ 22 := by decide +kernel
  have em : z_min (T.length : Int) (z_min ((zsh 1).2 : Int) 120) = T.length := by
    rw [zl1]
    unfold z_min
    split <;> split at * <;> omega
  obtain ⟨w1, q1, q2, q3⟩ := r_split (d := d + 1) hx hl hX.2
  have hT1 : TO w1 j D := fun a h0 h1 i => by
    rw [q3 (j + a) i (by omega) (by omega) (by omega)]
    exact hT a h0 h1 i
  obtain ⟨w2, r1, r2, r3, r4⟩ := r_tempty (d := d + 7) hj hT1
  have hlen := tk_len (a := aT0 T) (n := T.length) (i := 0) (by omega)
  have hC : CR (zup w2 16 3 0) (tk (aT0 T) T.length 0) := by
    refine ⟨by rw [zup_self]; omega, by rw [zup_self]; omega, fun i hi => ?_⟩
    rw [zup_self, zup_ne (by omega), zup_ne (by omega), r4 17 (by omega), r4 18 (by omega), Int.zero_add]
    exact q2.2 i hi
  have hT2 : TO (zup w2 16 3 0) j (emp D) := fun a h0 h1 i => by
    rw [zup_ne (by omega)]
    exact r2 a h0 h1 i
  obtain ⟨w3, s1, s2, s3, s4, s5⟩ := r_rd_l (d := d) (v1 := (2, 1)) (v2 := (0, (T.length : Int))) hj hl 121 0 (zup w2 16 3 0) (emp D) _ (by omega) (by omega) (by omega) hC (tk_g 0) hT2 (WD_emp D)
  refine ⟨w3, ?_, s2, s3, fun a i h1 h2 => ?_, s5⟩
  · show Rn (d + 8) 5 0 [(2, 16), (2, 1), (0, (T.length : Int)), (2, j), (9, 0)] [] 92 w = _
    simp (disch := first | assumption | omega | (simp only [zcat_0, zcat_i, zcat_l, zcat_r, zcat_t]; omega) | simp) only [e_X1_read_0, e_X1_read_1, e_X1_read_2, e_X1_read_3, e_X1_read_4, e_X1_read_5, e_X1_read_7, e_X1_read_10, e_X1_read_13, e_X1_read_16, e_X1_read_17, e_X1_read_20, e_X1_read_21, e_X1_read_22, e_X1_read_25, e_X1_read_26, zpush_i, zpush_l, zpush_v, Option.bind_some, ↓if_pos, ↓if_neg, Int.reduceAdd, w32_id, em, q1, r1]
    exact s1
  · rw [s4 a i (by omega) h2, zup_off _ (by omega), r4 a h2, q3 a i (by omega) (by omega) (by omega)]
end T8
