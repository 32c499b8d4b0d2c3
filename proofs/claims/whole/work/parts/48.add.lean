section B2
variable {d : Nat} {w : zW} {n c x : Int} {S : Sc} {P : Pg} {L : BL} {e : Ent}
theorem aCome_in (h : hasC L (packC e.1) = true) : aCome L e = L := if_pos h
theorem aCome_new (h : ¬ hasC L (packC e.1) = true) (hl : L.length ≤ 3000) : aCome L e = L ++ [e] := by unfold aCome; rw [if_neg h, if_pos hl]
theorem aCome_full (hl : 3000 < L.length) : aCome L e = L := by
  unfold aCome
  split
  · rfl
  · rw [if_neg (by omega)]
theorem r_add_a {h p : Int} (hh : 0 ≤ h ∧ h < 8192) {n : Nat} (hn : n < 8192) (hp : (h + n) % 8192 = p) (h0 : w 44 p = 0) {v6 v7 : zV} (t6 : v6.1 ≠ 1) (t7 : v7.1 ≠ 1) {w' : zW} (ha : Cl (d + 1) 49 [(2, 41), (1, x), (0, c), (0, p)] 92 w = some ((9, 0), 92, w')) : Rn (d + 2) 48 14 [(2, 41), (1, x), (9, 0), (0, c), (0, h), (0, (n : Int)), v6, v7] [] 92 w = some ((9, 0), 92, w') := by
  have zo41 := zo_41; have zo42 := zo_42; have zl42 := zl_42; have zo44 := zo_44; have zl44 := zl_44
  have hst := r_isSt0 (d := d + 1) (w := w) (x := -1) (by omega)
  have h1 : (0 : Int) - 1 = -1 := rfl
  simp (disch := first | assumption | omega | (simp only [zcat_0, zcat_i, zcat_l, zcat_r, zcat_t]; omega) | simp) only [e_X3_add_14, e_X3_add_16, e_X3_add_19, e_X3_add_22, e_X3_add_24, e_X3_add_26, e_X3_add_27, e_X3_add_30, e_X3_add_31, e_X3_add_33, e_X3_add_34, e_X3_add_37, e_X3_add_39, e_X3_add_40, e_X3_add_41, e_X3_add_42, e_X3_add_44, e_X3_add_45, e_X3_add_47, e_X3_add_50, e_X3_add_53, e_X3_add_54, e_X3_add_55, e_X3_add_56, e_X3_add_58, e_X3_add_61, zpush_i, zpush_l, zpush_v, Option.bind_some, ↓if_pos, ↓if_neg, Int.reduceAdd, w32_id, an8191, hp, h0, h1, hst, ha]
theorem r_add_b {h p v : Int} (hh : 0 ≤ h ∧ h < 8192) {n : Nat} (hn : n < 8192) (hp : (h + n) % 8192 = p) (h0 : w 44 p = v) (v0 : 0 < v) (v1 : v ≤ 3000) (v2 : v ≤ w 41 9) (hx : w 42 (v - 1) = x) {v6 v7 : zV} (t6 : v6.1 ≠ 1) (t7 : v7.1 ≠ 1) : Rn (d + 2) 48 14 [(2, 41), (1, x), (9, 0), (0, c), (0, h), (0, (n : Int)), v6, v7] [] 92 w = some ((9, 0), 92, w) := by
  have zo41 := zo_41; have zo42 := zo_42; have zl42 := zl_42; have zo44 := zo_44; have zl44 := zl_44
  have hst := r_isSt1 (d := d + 1) (w := w) (x := v - 1) (by omega) (by omega) (by omega)
  simp (disch := first | assumption | omega | (simp only [zcat_0, zcat_i, zcat_l, zcat_r, zcat_t]; omega) | simp) only [e_X3_add_14, e_X3_add_16, e_X3_add_19, e_X3_add_22, e_X3_add_24, e_X3_add_26, e_X3_add_27, e_X3_add_30, e_X3_add_31, e_X3_add_33, e_X3_add_34, e_X3_add_37, e_X3_add_39, e_X3_add_40, e_X3_add_41, e_X3_add_42, e_X3_add_44, e_X3_add_45, e_X3_add_47, e_X3_add_50, e_X3_add_53, e_X3_add_54, e_X3_add_55, e_X3_add_56, e_X3_add_58, e_X3_add_61, e_X3_add_62, e_X3_add_63, e_X3_add_66, e_X3_add_68, e_X3_add_69, e_X3_add_70, e_X3_add_71, e_X3_add_74, zpush_i, zpush_l, zpush_v, Option.bind_some, ↓if_pos, ↓if_neg, Int.reduceAdd, w32_id, an8191, hp, h0, hst, hx, z_cmp0]
theorem r_add_h : Cl (d + 2) 48 [(2, 41), (1, x), (0, c)] 92 w = Rn (d + 2) 48 14 [(2, 41), (1, x), (9, 0), (0, c), (0, hsC x), (0, ((0 : Nat) : Int)), (9, 0), (9, 0)] [] 92 w := by
  show Rn (d + 2) 48 0 [(2, 41), (1, x), (9, 0), (0, c), (9, 0), (9, 0), (9, 0), (9, 0)] [] 92 w = _
  simp (disch := first | assumption | omega | (simp only [zcat_0, zcat_i, zcat_l, zcat_r, zcat_t]; omega) | simp) only [e_X3_add_0, e_X3_add_1, e_X3_add_4, e_X3_add_5, e_X3_add_7, e_X3_add_8, e_X3_add_9, e_X3_add_11, e_X3_add_12, zpush_i, zpush_l, zpush_v, Option.bind_some, ↓if_pos, ↓if_neg, Int.reduceAdd, w32_id]
  rfl
theorem r_add (hC : CL w L) (hl : L.length ≤ 3001) (hc : c = if L.length = 0 then 0 else e.2.1 * 4 + e.2.2.1) : ∃ w', Cl (d + 2) 48 [(2, 41), (1, packC e.1), (0, c)] 92 w = some ((9, 0), 92, w') ∧ CL w' (aCome L e) ∧ FA w w' := by
  obtain ⟨c1, c2, c3, c4⟩ := id hC
  have hh := hsC_in (packC e.1)
  obtain ⟨n, hn, h1, h2⟩ := c4.find (x := packC e.1) (by omega) hh.1 hh.2
  obtain ⟨v6, v7, t6, t7, hr⟩ := r_add_l (d := d + 1) (c := c) hC hh hn h2 n 0 (9, 0) (9, 0) (by simp) (by simp) (by omega)
  rw [r_add_h, hr]
  have hrange : 0 ≤ (hsC (packC e.1) + n) % 8192 ∧ (hsC (packC e.1) + n) % 8192 < 8192 := by
    generalize hsC (packC e.1) = h
    omega
  obtain ⟨p, hp⟩ : ∃ p, (hsC (packC e.1) + n) % 8192 = p := ⟨_, rfl⟩
  rw [hp] at h1 hrange
  have rp := c4.1 p hrange.1 hrange.2
  rcases h1 with h1 | ⟨h1, h1'⟩
  · have hz : w 44 ((hsC (packC e.1) + n) % 8192) = 0 := by rw [hp]; exact h1
    have hno := c4.notin hz h2
    by_cases hm : L.length < 3000
    · have hnot : ¬ hasC L (packC e.1) = true := fun z => by
        obtain ⟨j, hj, hx⟩ := hasC_iff.mp z
        exact hno j (by omega) hx
      have m1 : min L.length 3000 = L.length := by omega
      have m2 : min (L ++ [e]).length 3000 = L.length + 1 := by simp; omega
      rw [m1] at c1 c4
      have ha := r_app1 (d := d + 1) (w := w) (x := packC e.1) (c := c) (q := p) (by omega) hrange
      rw [c1] at ha
      refine ⟨_, r_add_a hh hn hp h1 t6 t7 ha, ?_, ?_⟩
      · rw [aCome_new hnot (by omega)]
        refine ⟨?_, ?_, fun i hi h3 => ?_, ?_⟩
        · rw [m2, zup_off _ (Or.inl (by omega)), zup_self]
          rfl
        · rw [zup_off _ (Or.inl (by omega)), zup_off _ (Or.inr (by omega)), zup_off _ (Or.inl (by omega)), zup_off _ (Or.inl (by omega)), c2, if_neg (by omega), if_neg (by simp; omega)]
        · by_cases ci : i < L.length
          · obtain ⟨g1, g2⟩ := c3 i ci h3
            rw [eS_lt ci, eP_lt ci, eB_lt ci, ← g1, ← g2]
            constructor
            · rw [zup_off _ (Or.inl (by omega)), zup_off _ (Or.inl (by omega)), zup_off _ (Or.inl (by omega)), zup_off _ (Or.inr (by omega))]
            · rw [zup_off _ (Or.inl (by omega)), zup_off _ (Or.inl (by omega)), zup_off _ (Or.inr (by omega)), zup_off _ (Or.inl (by omega))]
          · have : i = L.length := by simp at hi; omega
            subst this
            rw [eS_at, eP_at, eB_at]
            constructor
            · rw [zup_off _ (Or.inl (by omega)), zup_off _ (Or.inl (by omega)), zup_off _ (Or.inl (by omega)), zup_self]
            · rw [zup_off _ (Or.inl (by omega)), zup_off _ (Or.inl (by omega)), zup_self, hc]
        · rw [m2]
          refine c4.add hh.1 hn hz (fun i hi => (h2 i hi).1) (fun j hj => by rw [eS_lt hj]) (by rw [eS_at]) (fun a a0 a1 => ?_)
          rw [hp]
          by_cases ea : a = p
          · rw [ea, zup_self, if_pos rfl]
          · rw [if_neg ea, zup_off _ (Or.inr ea), zup_off _ (Or.inl (by omega)), zup_off _ (Or.inl (by omega)), zup_off _ (Or.inl (by omega))]
      · intro a i n1 n2 n3 n4
        rw [zup_off _ (Or.inl n3), zup_off _ (by omega), zup_off _ (Or.inl n2), zup_off _ (Or.inl n1)]
    · have m1 : min L.length 3000 = 3000 := by omega
      have ha := r_app0 (d := d + 1) (w := w) (x := packC e.1) (c := c) (q := p) (by omega)
      have FF : FA w (zup w 41 8 1) := fun a i n1 n2 n3 n4 => zup_off _ (by omega)
      refine ⟨_, r_add_a hh hn hp h1 t6 t7 ha, ?_, FF⟩
      by_cases hx : L.length = 3000
      · have hnot : ¬ hasC L (packC e.1) = true := fun z => by
          obtain ⟨j, hj, hx⟩ := hasC_iff.mp z
          exact hno j (by omega) hx
        rw [aCome_new hnot (by omega)]
        have m2 : min (L ++ [e]).length 3000 = 3000 := by simp; omega
        rw [m1] at c1 c4
        refine ⟨?_, ?_, fun i hi h3 => ?_, ?_⟩
        · rw [m2, zup_off _ (Or.inr (by omega)), c1]
        · rw [zup_self, if_pos (by simp; omega)]
        · rw [eS_lt (by omega), eP_lt (by omega), eB_lt (by omega), zup_off _ (Or.inl (by omega)), zup_off _ (Or.inl (by omega))]
          exact c3 i (by omega) h3
        · rw [m2]
          exact c4.congr (fun j hj => by rw [eS_lt (by omega)]) (fun a _ _ => zup_off _ (Or.inl (by omega)))
      · rw [aCome_full (by omega)]
        rw [m1] at c1 c4
        refine ⟨?_, ?_, fun i hi h3 => ?_, ?_⟩
        · rw [m1, zup_off _ (Or.inr (by omega)), c1]
        · rw [zup_self, if_pos (by omega)]
        · rw [zup_off _ (Or.inl (by omega)), zup_off _ (Or.inl (by omega))]
          exact c3 i (by omega) h3
        · rw [m1]
          exact c4.congr (fun j hj => rfl) (fun a _ _ => zup_off _ (Or.inl (by omega)))
  · have rv : 0 < w 44 p ∧ w 44 p ≤ 3000 ∧ w 44 p ≤ w 41 9 := by omega
    obtain ⟨s1, -⟩ := c3 (w 44 p - 1).toNat (by omega) (by omega)
    rw [show (((w 44 p - 1).toNat : Nat) : Int) = w 44 p - 1 by omega, h1'] at s1
    refine ⟨w, r_add_b hh hn hp rfl rv.1 rv.2.1 rv.2.2 s1 t6 t7, ?_, fun _ _ _ _ _ _ => rfl⟩
    rw [aCome_in]
    · exact hC
    · exact hasC_iff.mpr ⟨(w 44 p - 1).toNat, by omega, h1'⟩
end B2
