theorem w_ofInt {x : Int} (h1 : -2147483648 ≤ x) (h2 : x < 2147483648) : (Int32.ofInt x).toInt = x := by
  rw [Int32.toInt_ofInt]
  exact w32_id h1 h2
theorem z_div4 {x : Int} (h0 : 0 ≤ x) (h : x < 1000000) : z_div x 4 = x / 4 := by
  unfold z_div
  rw [Int32.toInt_div, w_ofInt (by omega) (by omega), w_ofInt (by omega) (by omega), Int.tdiv_eq_ediv_of_nonneg h0]
  exact Int.bmod_eq_of_le (by omega) (by omega)
theorem z_rm4 {x : Int} (h0 : 0 ≤ x) (h : x < 1000000) : z_rem x 4 = x % 4 := by
  unfold z_rem
  have e : Int32.ofInt x / Int32.ofInt 4 = Int32.ofInt (x / 4) := by
    apply Int32.toInt_inj.mp
    have := z_div4 h0 h
    unfold z_div at this
    rw [this, w_ofInt (by omega) (by omega)]
  rw [e, ← Int32.ofInt_mul, ← Int32.ofInt_sub, w_ofInt (by omega) (by omega)]
  omega
def anc (L : BL) (x : Nat) : Nat → Nat
  | 0 => x
  | m + 1 => anc L (eP L x).toNat m
section S1
variable {d : Nat} {w : zW} {n k : Int} {S : Sc} {P : Pg} {L : BL}
theorem LG.par (hL : LG P L) {x : Nat} (hx : x < L.length) (h : 0 < eD L x) : 0 < x ∧ 0 ≤ eP L x ∧ eP L x < x ∧ 0 ≤ eB L x ∧ eB L x < 4 ∧ eD L x = eD L (eP L x).toNat + 1 := by
  have h0 : 0 < x := by
    rcases Nat.eq_zero_or_pos x with c | c
    · subst c
      have := (hL.2.2.2 hx).2.2
      omega
    · exact c
  exact ⟨h0, hL.2.2.1 x h0 hx⟩
theorem anc_d (hL : LG P L) : ∀ (m x : Nat), x < L.length → (m : Int) ≤ eD L x → anc L x m < L.length ∧ eD L (anc L x m) = eD L x - m
  | 0, x, hx, _ => ⟨hx, by rw [anc]; omega⟩
  | m + 1, x, hx, h => by
    obtain ⟨p1, p2, p3, p4, p5, p6⟩ := hL.par hx (by omega)
    obtain ⟨g1, g2⟩ := anc_d hL m (eP L x).toNat (by omega) (by omega)
    rw [anc]
    exact ⟨g1, by omega⟩
theorem r_sto_l (hC : CL w L) (hL : LG P L) (hl : L.length ≤ 3000) {i : Int} : ∀ (x : Nat) (c : Int), x < L.length → 0 ≤ c → c + eD L x < 3000 → Rn (d + 1) 54 4 [(2, 41), (0, i), (0, c), (0, (x : Int))] [] 92 w = some ((0, c + eD L x), 92, w) := by
  have zo41 := zo_41; have zo43 := zo_43; have zl43 := zl_43
  obtain ⟨c1, c2, c3, c4⟩ := id hC
  intro x
  induction x using Nat.strongRecOn with
  | ind x ih =>
    intro c hx h0 hc
    by_cases hx0 : x = 0
    · subst hx0
      have e0 := (hL.2.2.2 hx).2.2
      rw [e0, Int.add_zero]
      show Rn (d + 1) 54 4 [(2, 41), (0, i), (0, c), (0, 0)] [] 92 w = _
      by_cases h3 : c < 3000
      · simp (disch := first | assumption | omega | (simp only [zcat_0, zcat_i, zcat_l, zcat_r, zcat_t]; omega) | simp) only [e_X3_stepsTo_4, e_X3_stepsTo_5, e_X3_stepsTo_8, e_X3_stepsTo_11, e_X3_stepsTo_12, e_X3_stepsTo_38, e_X3_stepsTo_39, zpush_i, zpush_l, zpush_v, Option.bind_some, ↓if_pos, ↓if_neg, Int.reduceAdd, w32_id]
      · simp (disch := first | assumption | omega | (simp only [zcat_0, zcat_i, zcat_l, zcat_r, zcat_t]; omega) | simp) only [e_X3_stepsTo_4, e_X3_stepsTo_5, e_X3_stepsTo_8, e_X3_stepsTo_38, e_X3_stepsTo_39, zpush_i, zpush_l, zpush_v, Option.bind_some, ↓if_pos, ↓if_neg, Int.reduceAdd, w32_id]
    · obtain ⟨p2, p3, p4, p5, p6⟩ := hL.2.2.1 x (by omega) hx
      have hd := eD_nn hL (eP L x).toNat
      obtain ⟨-, s2⟩ := c3 x hx (by omega)
      rw [if_neg hx0] at s2
      have ih' := ih (eP L x).toNat (by omega) (c + 1) (by omega) (by omega) (by omega)
      rw [show (((eP L x).toNat : Nat) : Int) = eP L x by omega] at ih'
      rw [show c + eD L x = c + 1 + eD L (eP L x).toNat by omega, ← ih']
      have hst := r_isSt1 (d := d) (w := w) (x := (x : Int)) (by omega) (by omega) (by omega)
      have ed : (eP L x * 4 + eB L x) / 4 = eP L x := by omega
      rw [e_X3_stepsTo_4]
      simp (disch := first | assumption | omega | (simp only [zcat_0, zcat_i, zcat_l, zcat_r, zcat_t]; omega) | simp) only [e_X3_stepsTo_5, e_X3_stepsTo_8, e_X3_stepsTo_11, e_X3_stepsTo_12, e_X3_stepsTo_15, e_X3_stepsTo_16, e_X3_stepsTo_17, e_X3_stepsTo_20, e_X3_stepsTo_23, e_X3_stepsTo_24, e_X3_stepsTo_27, e_X3_stepsTo_28, e_X3_stepsTo_29, e_X3_stepsTo_30, e_X3_stepsTo_31, e_X3_stepsTo_32, e_X3_stepsTo_35, zpush_i, zpush_l, zpush_v, Option.bind_some, ↓if_pos, ↓if_neg, Int.reduceAdd, w32_id, hst, s2, z_div4, ed]
theorem r_stepsTo (hC : CL w L) (hL : LG P L) (hl : L.length ≤ 3000) {i : Nat} (hi : i < L.length) : Cl (d + 1) 54 [(2, 41), (0, (i : Int))] 92 w = some ((0, eD L i), 92, w) := by
  show Rn (d + 1) 54 0 [(2, 41), (0, (i : Int)), (9, 0), (9, 0)] [] 92 w = _
  have := hL.dp i hi
  have h := r_sto_l (d := d) (i := (i : Int)) hC hL hl i 0 hi (by omega) (by omega)
  rw [Int.zero_add] at h
  rw [← h]
  simp (disch := first | assumption | omega | (simp only [zcat_0, zcat_i, zcat_l, zcat_r, zcat_t]; omega) | simp) only [e_X3_stepsTo_0, e_X3_stepsTo_1, e_X3_stepsTo_2, e_X3_stepsTo_3, zpush_i, zpush_l, zpush_v, Option.bind_some, ↓if_pos, ↓if_neg, Int.reduceAdd, w32_id]
theorem r_stepsNo : Cl (d + 1) 54 [(2, 41), (0, -1)] 92 w = some ((0, 0), 92, w) := by
  show Rn (d + 1) 54 0 [(2, 41), (0, -1), (9, 0), (9, 0)] [] 92 w = _
  simp (disch := first | assumption | omega | (simp only [zcat_0, zcat_i, zcat_l, zcat_r, zcat_t]; omega) | simp) only [e_X3_stepsTo_0, e_X3_stepsTo_1, e_X3_stepsTo_2, e_X3_stepsTo_3, e_X3_stepsTo_4, e_X3_stepsTo_5, e_X3_stepsTo_8, e_X3_stepsTo_11, e_X3_stepsTo_12, e_X3_stepsTo_38, e_X3_stepsTo_39, zpush_i, zpush_l, zpush_v, Option.bind_some, ↓if_pos, ↓if_neg, Int.reduceAdd, w32_id]
theorem r_spr_l (hC : CL w L) (hL : LG P L) (hl : L.length ≤ 3000) {i b : Int} : ∀ (m x : Nat) (c : Int), x < L.length → 0 ≤ c → c + m = b → b < 3000 → (m : Int) ≤ eD L x → Rn (d + 1) 55 27 [(2, 41), (0, i), (0, k), (0, b), (0, (x : Int)), (0, c)] [] 92 w = Rn (d + 1) 55 59 [(2, 41), (0, i), (0, k), (0, b), (0, (anc L x m : Int)), (0, b)] [] 92 w := by
  have zo41 := zo_41; have zo43 := zo_43; have zl43 := zl_43
  obtain ⟨c1, c2, c3, c4⟩ := id hC
  intro m
  induction m with
  | zero =>
    intro x c hx h0 hb h3 hm
    rw [show c = b by omega]
    simp (disch := first | assumption | omega | (simp only [zcat_0, zcat_i, zcat_l, zcat_r, zcat_t]; omega) | simp) only [e_X3_stepper_27, e_X3_stepper_29, e_X3_stepper_30, zpush_i, zpush_l, zpush_v, Option.bind_some, ↓if_pos, ↓if_neg, Int.reduceAdd, w32_id]
    rfl
  | succ m ih =>
    intro x c hx h0 hb h3 hm
    obtain ⟨p1, p2, p3, p4, p5, p6⟩ := hL.par hx (by omega)
    obtain ⟨-, s2⟩ := c3 x hx (by omega)
    rw [if_neg (by omega)] at s2
    have ih' := ih (eP L x).toNat (c + 1) (by omega) (by omega) (by omega) h3 (by omega)
    rw [show (((eP L x).toNat : Nat) : Int) = eP L x by omega] at ih'
    have hst := r_isSt1 (d := d) (w := w) (x := (x : Int)) (by omega) (by omega) (by omega)
    have ed : (eP L x * 4 + eB L x) / 4 = eP L x := by omega
    rw [anc, ← ih', e_X3_stepper_27]
    simp (disch := first | assumption | omega | (simp only [zcat_0, zcat_i, zcat_l, zcat_r, zcat_t]; omega) | simp) only [e_X3_stepper_29, e_X3_stepper_30, e_X3_stepper_33, e_X3_stepper_34, e_X3_stepper_36, e_X3_stepper_39, e_X3_stepper_42, e_X3_stepper_43, e_X3_stepper_46, e_X3_stepper_48, e_X3_stepper_49, e_X3_stepper_50, e_X3_stepper_51, e_X3_stepper_53, e_X3_stepper_56, zpush_i, zpush_l, zpush_v, Option.bind_some, ↓if_pos, ↓if_neg, Int.reduceAdd, w32_id, hst, s2, z_div4, ed]
theorem r_stepper (hC : CL w L) (hL : LG P L) (hl : L.length ≤ 3000) {i : Nat} (hi : i < L.length) (hk : 0 ≤ k) (hk2 : k < eD L i) : Cl (d + 2) 55 [(2, 41), (0, (i : Int)), (0, k)] 92 w = some ((0, eB L (anc L i (eD L i - 1 - k).toNat)), 92, w) := by
  have zo41 := zo_41; have zo43 := zo_43; have zl43 := zl_43
  have hdp := hL.dp i hi
  have h1 := r_stepsTo (d := d) hC hL hl hi
  have h2 := r_spr_l (d := d + 1) (k := k) (i := (i : Int)) (b := eD L i - 1 - k) hC hL hl (eD L i - 1 - k).toNat i 0 hi (by omega) (by omega) (by omega) (by omega)
  obtain ⟨g1, g2⟩ := anc_d hL (eD L i - 1 - k).toNat i hi (by omega)
  obtain ⟨p1, p2, p3, p4, p5, p6⟩ := hL.par g1 (by omega)
  obtain ⟨-, s2⟩ := hC.2.2.1 _ g1 (by omega)
  rw [if_neg (by omega)] at s2
  have c1 := hC.1
  generalize anc L i (eD L i - 1 - k).toNat = z at *
  have hst := r_isSt1 (d := d + 1) (w := w) (x := (z : Int)) (by omega) (by omega) (by omega)
  have ed : (eP L z * 4 + eB L z) % 4 = eB L z := by omega
  show Rn (d + 2) 55 0 [(2, 41), (0, (i : Int)), (0, k), (9, 0), (9, 0), (9, 0)] [] 92 w = _
  have ea : Rn (d + 2) 55 0 [(2, 41), (0, (i : Int)), (0, k), (9, 0), (9, 0), (9, 0)] [] 92 w = Rn (d + 2) 55 27 [(2, 41), (0, (i : Int)), (0, k), (0, eD L i - 1 - k), (0, (i : Int)), (0, 0)] [] 92 w := by
    simp (disch := first | assumption | omega | (simp only [zcat_0, zcat_i, zcat_l, zcat_r, zcat_t]; omega) | simp) only [e_X3_stepper_0, e_X3_stepper_1, e_X3_stepper_2, e_X3_stepper_5, e_X3_stepper_6, e_X3_stepper_7, e_X3_stepper_8, e_X3_stepper_9, e_X3_stepper_10, e_X3_stepper_11, e_X3_stepper_14, e_X3_stepper_15, e_X3_stepper_18, e_X3_stepper_20, e_X3_stepper_21, e_X3_stepper_22, e_X3_stepper_24, e_X3_stepper_25, zpush_i, zpush_l, zpush_v, Option.bind_some, ↓if_pos, ↓if_neg, Int.reduceAdd, w32_id, h1]
  rw [ea, h2]
  simp (disch := first | assumption | omega | (simp only [zcat_0, zcat_i, zcat_l, zcat_r, zcat_t]; omega) | simp) only [e_X3_stepper_59, e_X3_stepper_60, e_X3_stepper_62, e_X3_stepper_65, e_X3_stepper_68, e_X3_stepper_69, e_X3_stepper_72, e_X3_stepper_74, e_X3_stepper_75, e_X3_stepper_76, e_X3_stepper_77, e_X3_stepper_80, e_X3_stepper_82, zpush_i, zpush_l, zpush_v, Option.bind_some, ↓if_pos, ↓if_neg, Int.reduceAdd, w32_id, hst, s2, z_rm4, ed]
theorem r_stepNo (hC : CL w L) (hL : LG P L) (hl : L.length ≤ 3000) {i : Nat} (hi : i < L.length) (hk : -2147480000 ≤ k ∧ k < 2147483648) (hk2 : k < 0 ∨ eD L i ≤ k) : Cl (d + 2) 55 [(2, 41), (0, (i : Int)), (0, k)] 92 w = some ((0, -9), 92, w) := by
  have zo41 := zo_41
  have hdp := hL.dp i hi
  have h1 := r_stepsTo (d := d) hC hL hl hi
  show Rn (d + 2) 55 0 [(2, 41), (0, (i : Int)), (0, k), (9, 0), (9, 0), (9, 0)] [] 92 w = _
  by_cases c : k < 0
  · simp (disch := first | assumption | omega | (simp only [zcat_0, zcat_i, zcat_l, zcat_r, zcat_t]; omega) | simp) only [e_X3_stepper_0, e_X3_stepper_1, e_X3_stepper_2, e_X3_stepper_5, e_X3_stepper_6, e_X3_stepper_7, e_X3_stepper_8, e_X3_stepper_9, e_X3_stepper_10, e_X3_stepper_11, e_X3_stepper_14, e_X3_stepper_15, e_X3_stepper_18, e_X3_stepper_20, zpush_i, zpush_l, zpush_v, Option.bind_some, ↓if_pos, ↓if_neg, Int.reduceAdd, w32_id, h1]
  · simp (disch := first | assumption | omega | (simp only [zcat_0, zcat_i, zcat_l, zcat_r, zcat_t]; omega) | simp) only [e_X3_stepper_0, e_X3_stepper_1, e_X3_stepper_2, e_X3_stepper_5, e_X3_stepper_6, e_X3_stepper_7, e_X3_stepper_8, e_X3_stepper_9, e_X3_stepper_10, e_X3_stepper_11, e_X3_stepper_14, e_X3_stepper_15, e_X3_stepper_18, e_X3_stepper_20, zpush_i, zpush_l, zpush_v, Option.bind_some, ↓if_pos, ↓if_neg, Int.reduceAdd, w32_id, h1]
theorem m_anc (hM : ML w n L) (hL : LG P L) (hk : 0 ≤ k ∧ k < 100000) : ∀ (m s : Nat), s < L.length → eD L s = k + 1 + m → Rn d 136 68 [(2, 67), (0, k), (0, (s : Int))] [] 92 w = some ((0, eB L (anc L s m)), 92, w) := by
  have zo67 := zo_67; have zo82 := zo_82; have zl82 := zl_82; have zo83 := zo_83; have zl83 := zl_83; have zo84 := zo_84; have zl84 := zl_84
  have hl := hL.1
  intro m
  induction m with
  | zero =>
    intro s hs hd
    obtain ⟨-, -, s3, s4⟩ := hM.2.1 s hs
    rw [anc]
    simp (disch := first | assumption | omega | (simp only [zcat_0, zcat_i, zcat_l, zcat_r, zcat_t]; omega) | simp) only [e_X8_worst_68, e_X8_worst_69, e_X8_worst_72, e_X8_worst_73, e_X8_worst_74, e_X8_worst_75, e_X8_worst_76, e_X8_worst_77, e_X8_worst_90, e_X8_worst_91, e_X8_worst_94, e_X8_worst_95, e_X8_worst_96, zpush_i, zpush_l, zpush_v, Option.bind_some, ↓if_pos, ↓if_neg, Int.reduceAdd, w32_id, s3, s4]
  | succ m ih =>
    intro s hs hd
    obtain ⟨p1, p2, p3, p4, p5, p6⟩ := hL.par hs (by omega)
    obtain ⟨-, s2, -, s4⟩ := hM.2.1 s hs
    have ih' := ih (eP L s).toNat (by omega) (by omega)
    rw [show (((eP L s).toNat : Nat) : Int) = eP L s by omega] at ih'
    rw [anc, ← ih', e_X8_worst_68 (by omega)]
    simp (disch := first | assumption | omega | (simp only [zcat_0, zcat_i, zcat_l, zcat_r, zcat_t]; omega) | simp) only [e_X8_worst_69, e_X8_worst_72, e_X8_worst_73, e_X8_worst_74, e_X8_worst_75, e_X8_worst_76, e_X8_worst_77, e_X8_worst_80, e_X8_worst_81, e_X8_worst_84, e_X8_worst_85, e_X8_worst_86, e_X8_worst_87, zpush_i, zpush_l, zpush_v, Option.bind_some, ↓if_pos, ↓if_neg, Int.reduceAdd, w32_id, s2, s4]
end S1
