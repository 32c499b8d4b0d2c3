section W2
variable {d : Nat} {w : zW} {k j t p q n : Int} {S : Sc} {P : Pg} {a : Int → Int} {i : Int}
/-- nothing has changed but what is counted -/
def FW (w w' : zW) : Prop := ∀ b j, b ≠ 65 → b ≠ 66 → (b ≠ 41 ∨ j < 10 ∨ 14 < j) → w' b j = w b j
theorem FW.rf : FW w w := fun _ _ _ _ _ => rfl
theorem FW.tr {w' w'' : zW} (h : FW w w') (h' : FW w' w'') : FW w w'' := fun b j h1 h2 h3 => (h' b j h1 h2 h3).trans (h b j h1 h2 h3)
theorem FW.cs {w' : zW} (h : FW w w') (hk : isS k) (hC : CS w k S) : CS w' k S := by
  have e : ∀ b, b ≠ 41 → b ≠ 65 → b ≠ 66 → w' b = w b := fun b h1 h2 h3 => by
    funext j
    exact h b j h2 h3 (Or.inl h1)
  unfold CS
  rw [e (k + 1) (by omega) (by omega) (by omega), e (k + 2) (by omega) (by omega) (by omega), e (k + 3) (by omega) (by omega) (by omega), e (k + 4) (by omega) (by omega) (by omega), e (k + 5) (by omega) (by omega) (by omega), e (k + 6) (by omega) (by omega) (by omega), e (k + 7) (by omega) (by omega) (by omega), e (k + 8) (by omega) (by omega) (by omega), e k (by omega) (by omega) (by omega)]
  exact hC
theorem r_wo1 (hP : WP P) (hW : WS0 P S) (hC : CS w 45 S) (hp : 0 ≤ p ∧ p < 3) (hx : w32 (w 66 p) = w 66 p) : Rn (d + 1) 51 2 [(2, 41), (0, i), (0, p)] [] 92 w = Rn (d + 1) 51 2 [(2, 41), (0, i), (0, p + 1)] [] 92 (zup w 66 p (z_or (w 66 p) (oB S p))) := by
  have zo41 := zo_41; have zo45 := zo_45; have zo66 := zo_66; have zl66 := zl_66; have zo47 := zo_47; have zl47 := zl_47
  have hP4 := hP.2.1
  have c : w 47 p = ownC (S.1 (3 + p)) := (hC.1 p hp.1 hp.2).2.1
  obtain ⟨p1, p2, p3, p4, p5⟩ := hW.1 p hp.1 hp.2
  rw [e_X3_weigh_2]
  unfold oB
  by_cases h : S.1 (3 + p) = 0
  · rw [if_pos h, z_or0 hx, zup_id]
    rw [h] at c
    have c' : w 47 p = 4 := c
    simp (disch := first | assumption | omega | (simp only [zcat_0, zcat_i, zcat_l, zcat_r, zcat_t]; omega) | simp) only [e_X3_weigh_3, e_X3_weigh_4, e_X3_weigh_7, e_X3_weigh_8, e_X3_weigh_11, e_X3_weigh_14, e_X3_weigh_15, e_X3_weigh_16, e_X3_weigh_19, e_X3_weigh_22, e_X3_weigh_23, e_X3_weigh_26, e_X3_weigh_27, e_X3_weigh_28, e_X3_weigh_29, e_X3_weigh_30, e_X3_weigh_31, e_X3_weigh_34, e_X3_weigh_37, e_X3_weigh_38, e_X3_weigh_39, e_X3_weigh_40, e_X3_weigh_41, e_X3_weigh_42, e_X3_weigh_45, zpush_i, zpush_l, zpush_v, Option.bind_some, ↓if_pos, ↓if_neg, Int.reduceAdd, w32_id, c', c_isThread0]
  · rw [if_neg h]
    have c' : w 47 p = S.1 (3 + p) - 1 := by rw [c]; unfold ownC; rw [if_neg h]
    simp (disch := first | assumption | omega | (simp only [zcat_0, zcat_i, zcat_l, zcat_r, zcat_t]; omega) | simp) only [e_X3_weigh_3, e_X3_weigh_4, e_X3_weigh_7, e_X3_weigh_8, e_X3_weigh_11, e_X3_weigh_14, e_X3_weigh_15, e_X3_weigh_16, e_X3_weigh_19, e_X3_weigh_22, e_X3_weigh_23, e_X3_weigh_26, e_X3_weigh_27, e_X3_weigh_28, e_X3_weigh_29, e_X3_weigh_30, e_X3_weigh_31, e_X3_weigh_34, e_X3_weigh_37, e_X3_weigh_38, e_X3_weigh_39, e_X3_weigh_40, e_X3_weigh_41, e_X3_weigh_42, e_X3_weigh_45, zpush_i, zpush_l, zpush_v, Option.bind_some, ↓if_pos, ↓if_neg, Int.reduceAdd, w32_id, c', c_isThread1]
theorem r_we1 (hC : CS w 45 S) (hp : 0 ≤ p ∧ p < 3) : Rn d 52 24 [(2, 41), (0, i), (0, p)] [] 92 w = Rn d 52 24 [(2, 41), (0, i), (0, p + 1)] [] 92 (zup w 65 p (z_or (w 65 p) (z_shl 1 (S.1 p)))) := by
  have zo41 := zo_41; have zo45 := zo_45; have zo65 := zo_65; have zl65 := zl_65; have zo46 := zo_46; have zl46 := zl_46
  have c : w 46 p = S.1 p := (hC.1 p hp.1 hp.2).1
  rw [e_X3_weighEnd_24]
  simp (disch := first | assumption | omega | (simp only [zcat_0, zcat_i, zcat_l, zcat_r, zcat_t]; omega) | simp) only [e_X3_weighEnd_25, e_X3_weighEnd_26, e_X3_weighEnd_29, e_X3_weighEnd_30, e_X3_weighEnd_33, e_X3_weighEnd_34, e_X3_weighEnd_35, e_X3_weighEnd_36, e_X3_weighEnd_37, e_X3_weighEnd_38, e_X3_weighEnd_41, e_X3_weighEnd_44, e_X3_weighEnd_45, e_X3_weighEnd_46, e_X3_weighEnd_47, e_X3_weighEnd_48, e_X3_weighEnd_49, e_X3_weighEnd_52, zpush_i, zpush_l, zpush_v, Option.bind_some, ↓if_pos, ↓if_neg, Int.reduceAdd, w32_id, c]
theorem r_ws1 (hW : WS0 P S) (hC : CS w 45 S) (h0 : 0 ≤ t) (h4 : t < 4) (hx : w32 (w 41 14) = w 41 14) : Rn d 53 24 [(2, 41), (0, i), (0, t)] [] 92 w = Rn d 53 24 [(2, 41), (0, i), (0, t + 1)] [] 92 (zup w 41 14 (z_or (w 41 14) (sB S t))) := by
  have zo41 := zo_41; have zo45 := zo_45; have zo50 := zo_50; have zl50 := zl_50
  have c : w 50 t = howC (S.1 (13 + t)) := (hC.2.1 t h0 h4).2.1
  obtain ⟨f1, f2, f3, f4, f5, f6⟩ := hW.2.1 t h0 h4
  rw [e_X3_weighStuck_24]
  unfold sB
  by_cases h : S.1 (13 + t) = 7
  · rw [if_pos h, z_or0 hx, zup_id]
    have c' : w 50 t = 3 := by rw [c]; exact (howC3 ⟨f3, f4⟩).mpr h
    simp (disch := first | assumption | omega | (simp only [zcat_0, zcat_i, zcat_l, zcat_r, zcat_t]; omega) | simp) only [e_X3_weighStuck_25, e_X3_weighStuck_26, e_X3_weighStuck_29, e_X3_weighStuck_30, e_X3_weighStuck_33, e_X3_weighStuck_36, e_X3_weighStuck_37, e_X3_weighStuck_38, e_X3_weighStuck_39, e_X3_weighStuck_42, e_X3_weighStuck_43, e_X3_weighStuck_44, e_X3_weighStuck_47, e_X3_weighStuck_48, e_X3_weighStuck_49, e_X3_weighStuck_50, e_X3_weighStuck_51, e_X3_weighStuck_54, e_X3_weighStuck_57, zpush_i, zpush_l, zpush_v, Option.bind_some, ↓if_pos, ↓if_neg, Int.reduceAdd, w32_id, c']
  · rw [if_neg h]
    have c' : w 50 t ≠ 3 := by rw [c]; exact fun z => h ((howC3 ⟨f3, f4⟩).mp z)
    simp (disch := first | assumption | omega | (simp only [zcat_0, zcat_i, zcat_l, zcat_r, zcat_t]; omega) | simp) only [e_X3_weighStuck_25, e_X3_weighStuck_26, e_X3_weighStuck_29, e_X3_weighStuck_30, e_X3_weighStuck_33, e_X3_weighStuck_36, e_X3_weighStuck_37, e_X3_weighStuck_38, e_X3_weighStuck_39, e_X3_weighStuck_42, e_X3_weighStuck_43, e_X3_weighStuck_44, e_X3_weighStuck_47, e_X3_weighStuck_48, e_X3_weighStuck_49, e_X3_weighStuck_50, e_X3_weighStuck_51, e_X3_weighStuck_54, e_X3_weighStuck_57, zpush_i, zpush_l, zpush_v, Option.bind_some, ↓if_pos, ↓if_neg, Int.reduceAdd, w32_id]
theorem r_wEnd (hC : CS w 45 S) (hA : CW w a) (h0 : 0 ≤ a 0 ∧ a 0 < 100000) : ∃ w', Cl d 52 [(2, 41), (0, i)] 92 w = some ((9, 0), 92, w') ∧ CW w' (aWe S i a) ∧ FW w w' := by
  have zo41 := zo_41
  obtain ⟨c0, c1, c2, c3, c4, c5⟩ := hA
  have F1 : FW w (zup (zup w 41 12 (if a 0 = 0 then i else a 2)) 41 10 (a 0 + 1)) := fun b j h1 h2 h3 => by rw [zup_off _ (by omega), zup_off _ (by omega)]
  have ea : Cl d 52 [(2, 41), (0, i)] 92 w = Rn d 52 24 [(2, 41), (0, i), (0, 0)] [] 92 (zup (zup w 41 12 (if a 0 = 0 then i else a 2)) 41 10 (a 0 + 1)) := by
    show Rn d 52 0 [(2, 41), (0, i), (9, 0)] [] 92 w = _
    by_cases h : a 0 = 0
    · rw [if_pos h]
      simp (disch := first | assumption | omega | (simp only [zcat_0, zcat_i, zcat_l, zcat_r, zcat_t]; omega) | simp) only [e_X3_weighEnd_0, e_X3_weighEnd_1, e_X3_weighEnd_4, e_X3_weighEnd_7, e_X3_weighEnd_8, e_X3_weighEnd_9, e_X3_weighEnd_12, e_X3_weighEnd_13, e_X3_weighEnd_14, e_X3_weighEnd_17, e_X3_weighEnd_18, e_X3_weighEnd_19, e_X3_weighEnd_22, e_X3_weighEnd_23, zpush_i, zpush_l, zpush_v, Option.bind_some, ↓if_pos, ↓if_neg, Int.reduceAdd, w32_id, c0, zup_off]
    · rw [if_neg h, ← c2, zup_id]
      simp (disch := first | assumption | omega | (simp only [zcat_0, zcat_i, zcat_l, zcat_r, zcat_t]; omega) | simp) only [e_X3_weighEnd_0, e_X3_weighEnd_1, e_X3_weighEnd_4, e_X3_weighEnd_7, e_X3_weighEnd_8, e_X3_weighEnd_9, e_X3_weighEnd_12, e_X3_weighEnd_13, e_X3_weighEnd_14, e_X3_weighEnd_17, e_X3_weighEnd_18, e_X3_weighEnd_19, e_X3_weighEnd_22, e_X3_weighEnd_23, zpush_i, zpush_l, zpush_v, Option.bind_some, ↓if_pos, ↓if_neg, Int.reduceAdd, w32_id, c0]
  generalize hw1 : zup (zup w 41 12 (if a 0 = 0 then i else a 2)) 41 10 (a 0 + 1) = w1 at *
  have k5 : ∀ p, w1 65 p = w 65 p := fun p => by rw [← hw1, zup_off _ (by omega), zup_off _ (by omega)]
  have C1 := F1.cs (k := 45) (by omega) hC
  have s0 := r_we1 (d := d) (i := i) (p := 0) C1 (by omega)
  have F2 : FW w1 (zup w1 65 0 (z_or (w1 65 0) (z_shl 1 (S.1 0)))) := fun b j h1 h2 h3 => zup_off _ (by omega)
  have s1 := r_we1 (d := d) (i := i) (p := 1) (F2.cs (k := 45) (by omega) C1) (by omega)
  have F3 : FW w1 (zup (zup w1 65 0 (z_or (w1 65 0) (z_shl 1 (S.1 0)))) 65 1 (z_or ((zup w1 65 0 (z_or (w1 65 0) (z_shl 1 (S.1 0)))) 65 1) (z_shl 1 (S.1 1)))) := F2.tr (fun b j h1 h2 h3 => zup_off _ (by omega))
  have s2 := r_we1 (d := d) (i := i) (p := 2) (F3.cs (k := 45) (by omega) C1) (by omega)
  have F4 := (F1.tr F3).tr (fun b j h1 h2 h3 => zup_off (zup (zup w1 65 0 (z_or (w1 65 0) (z_shl 1 (S.1 0)))) 65 1 (z_or ((zup w1 65 0 (z_or (w1 65 0) (z_shl 1 (S.1 0)))) 65 1) (z_shl 1 (S.1 1)))) (a := 65) (i := 2) (x := z_or ((zup (zup w1 65 0 (z_or (w1 65 0) (z_shl 1 (S.1 0)))) 65 1 (z_or ((zup w1 65 0 (z_or (w1 65 0) (z_shl 1 (S.1 0)))) 65 1) (z_shl 1 (S.1 1)))) 65 2) (z_shl 1 (S.1 2))) (by omega))
  refine ⟨_, ?_, ?_, F4⟩
  · rw [ea]
    refine (s0.trans (s1.trans s2)).trans ?_
    simp (disch := first | assumption | omega | (simp only [zcat_0, zcat_i, zcat_l, zcat_r, zcat_t]; omega) | simp) only [e_X3_weighEnd_24, e_X3_weighEnd_25, e_X3_weighEnd_26, e_X3_weighEnd_55, zpush_i, zpush_l, zpush_v, Option.bind_some, ↓if_pos, ↓if_neg, Int.reduceAdd, w32_id]
  · have g := fun p h0 h3 => (c5 p h0 h3)
    unfold aWe
    refine ⟨?_, ?_, ?_, ?_, ?_, fun p h0 h3 => ?_⟩
    · rw [← hw1]; simp (disch := omega) only [zup_off, zup_self, su_ne, su_self]
    · rw [← hw1]; simp (disch := omega) only [zup_off, su_ne]; exact c1
    · rw [← hw1]; simp (disch := omega) only [zup_off, zup_self, su_ne, su_self]
    · rw [← hw1]; simp (disch := omega) only [zup_off, su_ne]; exact c3
    · rw [← hw1]; simp (disch := omega) only [zup_off, su_ne]; exact c4
    · have e6 : w1 66 p = w 66 p := by rw [← hw1, zup_off _ (by omega), zup_off _ (by omega)]
      have : p = 0 ∨ p = 1 ∨ p = 2 := by omega
      rcases this with rfl | rfl | rfl
      · simp (disch := omega) only [zup_off, zup_self, su_ne, su_self, k5, e6, (c5 0 (by omega) (by omega)).1, (c5 0 (by omega) (by omega)).2, Int.reduceAdd]
        exact ⟨trivial, trivial⟩
      · simp (disch := omega) only [zup_off, zup_self, su_ne, su_self, k5, e6, (c5 1 (by omega) (by omega)).1, (c5 1 (by omega) (by omega)).2, Int.reduceAdd]
        exact ⟨trivial, trivial⟩
      · simp (disch := omega) only [zup_off, zup_self, su_ne, su_self, k5, e6, (c5 2 (by omega) (by omega)).1, (c5 2 (by omega) (by omega)).2, Int.reduceAdd]
        exact ⟨trivial, trivial⟩
end W2
