/-! THE BEGINNING -/
def sBg (P : Pg) : Sc := (fun i => if i < 3 then P 1 i else if 13 ≤ i ∧ i ≤ 16 then (if 0 < P 3 (i - 13) then 0 else 7) else 0, [])
section Q6
variable {d : Nat} {w : zW} {j k x p t : Int} {S : Sc} {P : Pg} {Q : Sg}
theorem sBg_a (h : p < 3) : (sBg P).1 p = P 1 p := if_pos h
theorem sBg_h (h0 : 0 ≤ t) (h4 : t < 4) : (sBg P).1 (13 + t) = if 0 < P 3 t then 0 else 7 := by
  show (if 13 + t < 3 then _ else if 13 ≤ 13 + t ∧ 13 + t ≤ 16 then (if 0 < P 3 (13 + t - 13) then (0 : Int) else 7) else 0) = _
  rw [if_neg (by omega), if_pos (by omega), show 13 + t - 13 = t by omega]
theorem sBg_z (h : 3 ≤ p) (h2 : p < 13 ∨ 16 < p) : (sBg P).1 p = 0 := by
  show (if p < 3 then _ else if 13 ≤ p ∧ p ≤ 16 then _ else 0) = _
  rw [if_neg (by omega), if_neg (by omega)]
theorem WS.bg (hP : WP P) : WS P (sBg P) := by
  refine ⟨⟨fun p h0 h3 => ?_, fun t h0 h4 => ?_, List.nodup_nil, fun t => ?_⟩, fun p h0 h3 hh => ?_⟩
  · rw [sBg_a h3, sBg_z (p := 3 + p) (by omega) (by omega), sBg_z (p := 6 + p) (by omega) (by omega)]
    have := hP.2.2.1 p h0 h3
    have := hP.1
    omega
  · rw [sBg_z (p := 9 + t) (by omega) (by omega), sBg_h h0 h4, sBg_z (p := 17 + t) (by omega) (by omega)]
    have := hP.2.2.2.1 t h0 h4
    refine ⟨by omega, by omega, ?_, ?_, ?_, Or.inl rfl⟩
    · split <;> omega
    · split <;> omega
    · split
      · intro _; omega
      · intro z; exact absurd rfl z
  · constructor
    · intro z
      exact absurd z (List.not_mem_nil)
    · rintro ⟨h0, h4, h1, h6⟩
      rw [sBg_h h0 h4] at h1 h6
      split at h1 <;> split at h6 <;> omega
  · rw [sBg_z (p := 3 + p) (by omega) (by omega)] at hh
    exact absurd rfl hh
theorem r_bg_p (hk : isS k) (hj : isT j) (hT : TO w j P) (hp : 0 ≤ p ∧ p < 3) : Rn d 19 2 [(2, k), (2, j), (0, p)] [] 92 w = Rn d 19 2 [(2, k), (2, j), (0, p + 1)] [] 92 (zup (zup (zup w (k + 1) p (P 1 p)) (k + 2) p 4) (k + 3) p 0) := by
  obtain ⟨z0, zn, z1, y1, z2, y2, z3, y3, z4, y4, z5, y5, z6, y6, z7, y7, z8, y8, z9, y9⟩ := sSall hk
  obtain ⟨t0, tn, t1, u1, t2, u2, t3, u3, t4, u4, t5, u5, t6, u6⟩ := sTall hj
  have e := hT 1 (by omega) (by omega) p
  rw [e_X2_begin_2]
  simp (disch := first | assumption | omega | (simp only [zcat_0, zcat_i, zcat_l, zcat_r, zcat_t]; omega) | simp) only [e_X2_begin_3, e_X2_begin_4, e_X2_begin_7, e_X2_begin_8, e_X2_begin_11, e_X2_begin_12, e_X2_begin_13, e_X2_begin_16, e_X2_begin_17, e_X2_begin_18, e_X2_begin_19, e_X2_begin_20, e_X2_begin_23, e_X2_begin_24, e_X2_begin_25, e_X2_begin_26, e_X2_begin_27, e_X2_begin_30, e_X2_begin_31, e_X2_begin_32, e_X2_begin_33, e_X2_begin_36, zpush_i, zpush_l, zpush_v, Option.bind_some, ↓if_pos, ↓if_neg, Int.reduceAdd, w32_id, e]
theorem r_bg_t (hk : isS k) (hj : isT j) (hT : TO w j P) (h0 : 0 ≤ t) (h4 : t < 4) : Rn d 19 41 [(2, k), (2, j), (0, t)] [] 92 w = Rn d 19 41 [(2, k), (2, j), (0, t + 1)] [] 92 (zup (zup (zup (zup w (k + 4) t 0) (k + 5) t (if 0 < P 3 t then 0 else 3)) (k + 6) t 3) (k + 7) t 0) := by
  obtain ⟨z0, zn, z1, y1, z2, y2, z3, y3, z4, y4, z5, y5, z6, y6, z7, y7, z8, y8, z9, y9⟩ := sSall hk
  obtain ⟨t0, tn, t1, u1, t2, u2, t3, u3, t4, u4, t5, u5, t6, u6⟩ := sTall hj
  have e := hT 3 (by omega) (by omega) t
  have e' : ∀ v, (zup w (k + 4) t v) (j + 3) t = P 3 t := fun v => by rw [zup_off _ (Or.inl (by omega))]; exact e
  rw [e_X2_begin_41]
  by_cases c : 0 < P 3 t
  · rw [if_pos c]
    simp (disch := first | assumption | omega | (simp only [zcat_0, zcat_i, zcat_l, zcat_r, zcat_t]; omega) | simp) only [e_X2_begin_42, e_X2_begin_43, e_X2_begin_46, e_X2_begin_47, e_X2_begin_50, e_X2_begin_51, e_X2_begin_52, e_X2_begin_53, e_X2_begin_54, e_X2_begin_57, e_X2_begin_58, e_X2_begin_59, e_X2_begin_62, e_X2_begin_63, e_X2_begin_64, e_X2_begin_67, e_X2_begin_68, e_X2_begin_71, e_X2_begin_72, e_X2_begin_73, e_X2_begin_74, e_X2_begin_77, e_X2_begin_78, e_X2_begin_79, e_X2_begin_80, e_X2_begin_81, e_X2_begin_84, e_X2_begin_85, e_X2_begin_86, e_X2_begin_87, e_X2_begin_90, zpush_i, zpush_l, zpush_v, Option.bind_some, ↓if_pos, ↓if_neg, Int.reduceAdd, w32_id, e']
  · rw [if_neg c]
    simp (disch := first | assumption | omega | (simp only [zcat_0, zcat_i, zcat_l, zcat_r, zcat_t]; omega) | simp) only [e_X2_begin_42, e_X2_begin_43, e_X2_begin_46, e_X2_begin_47, e_X2_begin_50, e_X2_begin_51, e_X2_begin_52, e_X2_begin_53, e_X2_begin_54, e_X2_begin_57, e_X2_begin_58, e_X2_begin_59, e_X2_begin_62, e_X2_begin_63, e_X2_begin_64, e_X2_begin_67, e_X2_begin_68, e_X2_begin_71, e_X2_begin_72, e_X2_begin_73, e_X2_begin_74, e_X2_begin_77, e_X2_begin_78, e_X2_begin_79, e_X2_begin_80, e_X2_begin_81, e_X2_begin_84, e_X2_begin_85, e_X2_begin_86, e_X2_begin_87, e_X2_begin_90, zpush_i, zpush_l, zpush_v, Option.bind_some, ↓if_pos, ↓if_neg, Int.reduceAdd, w32_id, e']
def BP (w : zW) (k : Int) (P : Pg) (n : Nat) : Prop := ∀ u : Nat, u < n → w (k + 1) u = P 1 u ∧ w (k + 2) u = 4 ∧ w (k + 3) u = 0
def BT (w : zW) (k : Int) (P : Pg) (n : Nat) : Prop := ∀ u : Nat, u < n → w (k + 4) u = 0 ∧ w (k + 5) u = (if 0 < P 3 u then 0 else 3) ∧ w (k + 6) u = 3 ∧ w (k + 7) u = 0
theorem r_bg_ps (hk : isS k) (hj : isT j) : ∀ (m n : Nat) (w : zW), n + m = 3 → TO w j P → BP w k P n → ∃ w', Rn d 19 2 [(2, k), (2, j), (0, (n : Int))] [] 92 w = Rn d 19 41 [(2, k), (2, j), (0, 0)] [] 92 w' ∧ BP w' k P 3 ∧ FR k w w' := by
  intro m
  induction m with
  | zero =>
    intro n w hn hT hB
    obtain rfl : n = 3 := by omega
    refine ⟨w, ?_, hB, FR.rf⟩
    show Rn d 19 2 [(2, k), (2, j), (0, 3)] [] 92 w = _
    simp (disch := first | assumption | omega | (simp only [zcat_0, zcat_i, zcat_l, zcat_r, zcat_t]; omega) | simp) only [e_X2_begin_2, e_X2_begin_3, e_X2_begin_4, e_X2_begin_39, e_X2_begin_40, zpush_i, zpush_l, zpush_v, Option.bind_some, ↓if_pos, ↓if_neg, Int.reduceAdd, w32_id]
  | succ m ih =>
    intro n w hn hT hB
    have s := r_bg_p (d := d) (p := n) hk hj hT (by omega)
    have F : FR k w (zup (zup (zup w (k + 1) n (P 1 n)) (k + 2) n 4) (k + 3) n 0) := ((FR.rf.up (by omega) (by omega)).up (by omega) (by omega)).up (by omega) (by omega)
    obtain ⟨w', g1, g2, g3⟩ := ih (n + 1) _ (by omega) (hT.fr hj hk F) (fun u hu => by
      by_cases c : u = n
      · subst c
        simp (disch := omega) only [zup_off, zup_self, and_self]
      · have := hB u (by omega)
        simp (disch := omega) only [zup_off]
        exact this)
    refine ⟨w', ?_, g2, F.tr g3⟩
    rw [s, ← g1, show ((n + 1 : Nat) : Int) = (n : Int) + 1 by omega]
theorem r_bg_ts (hk : isS k) (hj : isT j) : ∀ (m n : Nat) (w : zW), n + m = 4 → TO w j P → BP w k P 3 → BT w k P n → ∃ w', Rn d 19 41 [(2, k), (2, j), (0, (n : Int))] [] 92 w = Rn d 19 93 [(2, k), (2, j), (0, 4)] [] 92 w' ∧ BP w' k P 3 ∧ BT w' k P 4 ∧ FR k w w' := by
  intro m
  induction m with
  | zero =>
    intro n w hn hT hB hB2
    obtain rfl : n = 4 := by omega
    refine ⟨w, ?_, hB, hB2, FR.rf⟩
    show Rn d 19 41 [(2, k), (2, j), (0, 4)] [] 92 w = _
    simp (disch := first | assumption | omega | (simp only [zcat_0, zcat_i, zcat_l, zcat_r, zcat_t]; omega) | simp) only [e_X2_begin_41, e_X2_begin_42, e_X2_begin_43, zpush_i, zpush_l, zpush_v, Option.bind_some, ↓if_pos, ↓if_neg, Int.reduceAdd, w32_id]
  | succ m ih =>
    intro n w hn hT hB hB2
    have s := r_bg_t (d := d) (t := n) hk hj hT (by omega) (by omega)
    have F : FR k w (zup (zup (zup (zup w (k + 4) n 0) (k + 5) n (if 0 < P 3 n then 0 else 3)) (k + 6) n 3) (k + 7) n 0) := (((FR.rf.up (by omega) (by omega)).up (by omega) (by omega)).up (by omega) (by omega)).up (by omega) (by omega)
    obtain ⟨w', g1, g2, g3, g4⟩ := ih (n + 1) _ (by omega) (hT.fr hj hk F) (fun u hu => by
      have := hB u hu
      simp (disch := omega) only [zup_off]
      exact this) (fun u hu => by
      by_cases c : u = n
      · subst c
        simp (disch := omega) only [zup_off, zup_self, and_self]
      · have := hB2 u (by omega)
        simp (disch := omega) only [zup_off]
        exact this)
    refine ⟨w', ?_, g2, g3, F.tr g4⟩
    rw [s, ← g1, show ((n + 1 : Nat) : Int) = (n : Int) + 1 by omega]
theorem r_begin (hk : isS k) (hj : isT j) (hT : TO w j P) : ∃ w', Cl d 19 [(2, k), (2, j)] 92 w = some ((9, 0), 92, w') ∧ CS w' k (sBg P) ∧ FR k w w' ∧ w' k 10 = 0 := by
  obtain ⟨z0, zn, z1, y1, z2, y2, z3, y3, z4, y4, z5, y5, z6, y6, z7, y7, z8, y8, z9, y9⟩ := sSall hk
  obtain ⟨w1, q1, q2, q3⟩ := r_bg_ps (d := d) (P := P) hk hj 3 0 w rfl hT (fun u hu => absurd hu (Nat.not_lt_zero _))
  obtain ⟨w2, r1, r2, r3, r4⟩ := r_bg_ts (d := d) hk hj 4 0 w1 rfl (hT.fr hj hk q3) q2 (fun u hu => absurd hu (Nat.not_lt_zero _))
  have q1' : Rn d 19 2 [(2, k), (2, j), (0, 0)] [] 92 w = _ := q1
  have r1' : Rn d 19 41 [(2, k), (2, j), (0, 0)] [] 92 w1 = _ := r1
  refine ⟨zup (zup w2 k 9 0) k 10 0, ?_, ⟨fun p h0 h3 => ?_, fun t h0 h4 => ?_, ?_, fun i hi => absurd hi (Nat.not_lt_zero _)⟩, ((q3.tr r4).up (by omega) (by omega)).up (by omega) (by omega), zup_self ..⟩
  · show Rn d 19 0 [(2, k), (2, j), (9, 0)] [] 92 w = _
    have ea : Rn d 19 0 [(2, k), (2, j), (9, 0)] [] 92 w = Rn d 19 2 [(2, k), (2, j), (0, 0)] [] 92 w := by
      simp (disch := first | assumption | omega | (simp only [zcat_0, zcat_i, zcat_l, zcat_r, zcat_t]; omega) | simp) only [e_X2_begin_0, e_X2_begin_1, zpush_i, zpush_l, zpush_v, Option.bind_some, ↓if_pos, ↓if_neg, Int.reduceAdd, w32_id]
    rw [ea, q1', r1']
    simp (disch := first | assumption | omega | (simp only [zcat_0, zcat_i, zcat_l, zcat_r, zcat_t]; omega) | simp) only [e_X2_begin_93, e_X2_begin_94, e_X2_begin_95, e_X2_begin_98, e_X2_begin_99, e_X2_begin_100, e_X2_begin_103, zpush_i, zpush_l, zpush_v, Option.bind_some, ↓if_pos, ↓if_neg, Int.reduceAdd, w32_id]
  · have h := r2 p.toNat (by omega)
    rw [show ((p.toNat : Nat) : Int) = p by omega] at h
    rw [sBg_a h3, sBg_z (p := 3 + p) (by omega) (by omega), sBg_z (p := 6 + p) (by omega) (by omega)]
    simp (disch := omega) only [zup_off]
    exact h
  · have h := r3 t.toNat (by omega)
    rw [show ((t.toNat : Nat) : Int) = t by omega] at h
    rw [sBg_z (p := 9 + t) (by omega) (by omega), sBg_h h0 h4, sBg_z (p := 17 + t) (by omega) (by omega)]
    simp (disch := omega) only [zup_off]
    obtain ⟨h1, h2, h3, h4'⟩ := h
    refine ⟨h1, ?_, ?_, h4'⟩
    · rw [h2]
      split <;> rfl
    · rw [h3]
      split <;> rfl
  · rw [zup_off _ (Or.inr (by omega)), zup_self]
    rfl
end Q6
