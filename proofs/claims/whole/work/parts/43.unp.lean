section K3
variable {d : Nat} {w : zW} {k j p q n x : Int} {S S' : Sc} {P : Pg}
def UT (w : zW) (k : Int) (S : Sc) (t : Nat) : Prop := w k 9 = ((S.2.length - t : Nat) : Int) ∧ ∀ u : Nat, t ≤ u → u < 4 → w (k + 4) u = S.1 (9 + u) ∧ w (k + 5) u = howC (S.1 (13 + u)) ∧ w (k + 6) u = whC (S.1 (13 + u)) ∧ w (k + 7) u = S.1 (17 + u) ∧ w (k + 8) u = qC S u
theorem r_un_t (hk : isS k) (hP : WP P) (hW : WS0 P S) {t : Nat} (ht : t < 4) (hU : UT w k S (t + 1)) : ∃ w', Rn d 21 10 [(2, k), (1, x), (9, 0), (1, pT S (t + 1)), (9, 0), (0, (t : Int))] [] 92 w = Rn d 21 10 [(2, k), (1, x), (9, 0), (1, pT S t), (9, 0), (0, (t : Int) + -1)] [] 92 w' ∧ UT w' k S t ∧ FR k w w' ∧ w' k 10 = w k 10 := by
  obtain ⟨z0, zn, z1, y1, z2, y2, z3, y3, z4, y4, z5, y5, z6, y6, z7, y7, z8, y8, z9, y9⟩ := sSall hk
  have hd := dT hP hW ht
  have hl4 := row_len hW
  have hb : 0 ≤ pT S t ∧ pT S t < 2251799813685248 := by
    have := pT_in hP hW
    have : t = 0 ∨ t = 1 ∨ t = 2 ∨ t = 3 := by omega
    rcases this with rfl | rfl | rfl | rfl <;> omega
  have es := pT_s S t
  generalize hy : pT S (t + 1) = y at *
  have b0 : 0 ≤ y := by omega
  have b1 : y < 9223372036854775808 := by omega
  have d1 : y % 8 = qC S t := by omega
  have d2 : y / 8 % 2 = S.1 (17 + t) := by omega
  have d3 : y / 16 % 4 = whC (S.1 (13 + t)) := by omega
  have d4 : y / 64 % 4 = howC (S.1 (13 + t)) := by omega
  have d5 : y / 256 % 8 = S.1 (9 + t) := by omega
  have d6 : y / 2048 = pT S t := by omega
  obtain ⟨hq, hu⟩ := hU
  by_cases h : t < S.2.length
  · have e4 : qC S t ≠ 4 := by
      have : qC S t = S.2.getD t 0 := if_pos h
      have := (hW.2.2.2 _).mp (getD_mem h)
      omega
    refine ⟨zup (zup (zup (zup (zup (zup w (k + 8) t (qC S t)) k 9 (w k 9 + 1)) (k + 7) t (S.1 (17 + t))) (k + 6) t (whC (S.1 (13 + t)))) (k + 5) t (howC (S.1 (13 + t)))) (k + 4) t (S.1 (9 + t)), ?_, ⟨?_, fun u h1 h2 => ?_⟩, (((((FR.rf.up (by omega) (by omega)).up (by omega) (by omega)).up (by omega) (by omega)).up (by omega) (by omega)).up (by omega) (by omega)).up (by omega) (by omega), by simp (disch := omega) only [zup_off]⟩
    · rw [e_X2_unpack_10]
      simp (disch := first | assumption | omega | (simp only [zcat_0, zcat_i, zcat_l, zcat_r, zcat_t]; omega) | simp) only [e_X2_unpack_12, e_X2_unpack_15, e_X2_unpack_16, e_X2_unpack_19, e_X2_unpack_21, e_X2_unpack_22, e_X2_unpack_23, e_X2_unpack_25, e_X2_unpack_26, e_X2_unpack_27, e_X2_unpack_28, e_X2_unpack_31, e_X2_unpack_33, e_X2_unpack_34, e_X2_unpack_35, e_X2_unpack_38, e_X2_unpack_39, e_X2_unpack_40, e_X2_unpack_43, e_X2_unpack_44, e_X2_unpack_45, e_X2_unpack_48, e_X2_unpack_49, e_X2_unpack_52, e_X2_unpack_54, e_X2_unpack_55, e_X2_unpack_56, e_X2_unpack_57, e_X2_unpack_58, e_X2_unpack_59, e_X2_unpack_60, e_X2_unpack_61, e_X2_unpack_62, e_X2_unpack_65, e_X2_unpack_67, e_X2_unpack_68, e_X2_unpack_69, e_X2_unpack_70, e_X2_unpack_71, e_X2_unpack_72, e_X2_unpack_73, e_X2_unpack_74, e_X2_unpack_75, e_X2_unpack_78, e_X2_unpack_80, e_X2_unpack_81, e_X2_unpack_83, e_X2_unpack_84, e_X2_unpack_85, e_X2_unpack_86, e_X2_unpack_87, e_X2_unpack_88, e_X2_unpack_89, e_X2_unpack_92, e_X2_unpack_94, e_X2_unpack_95, e_X2_unpack_97, e_X2_unpack_98, e_X2_unpack_99, e_X2_unpack_101, e_X2_unpack_102, e_X2_unpack_103, e_X2_unpack_104, e_X2_unpack_106, e_X2_unpack_107, e_X2_unpack_108, e_X2_unpack_111, zpush_i, zpush_l, zpush_v, Option.bind_some, ↓if_pos, ↓if_neg, Int.reduceAdd, w32_id, an1, an3, an7, sr3, sr4, sr6, sr8, sr11, d1, d2, d3, d4, d5, d6, zup_off, zup_self]
    · simp (disch := omega) only [zup_off, zup_self]
      omega
    · by_cases e : u = t
      · subst e
        simp (disch := omega) only [zup_off, zup_self, and_self]
      · have := hu u (by omega) h2
        simp (disch := omega) only [zup_off]
        exact this
  · have e4 : qC S t = 4 := if_neg h
    refine ⟨zup (zup (zup (zup (zup w (k + 8) t (qC S t)) (k + 7) t (S.1 (17 + t))) (k + 6) t (whC (S.1 (13 + t)))) (k + 5) t (howC (S.1 (13 + t)))) (k + 4) t (S.1 (9 + t)), ?_, ⟨?_, fun u h1 h2 => ?_⟩, ((((FR.rf.up (by omega) (by omega)).up (by omega) (by omega)).up (by omega) (by omega)).up (by omega) (by omega)).up (by omega) (by omega), by simp (disch := omega) only [zup_off]⟩
    · rw [e_X2_unpack_10]
      simp (disch := first | assumption | omega | (simp only [zcat_0, zcat_i, zcat_l, zcat_r, zcat_t]; omega) | simp) only [e_X2_unpack_12, e_X2_unpack_15, e_X2_unpack_16, e_X2_unpack_19, e_X2_unpack_21, e_X2_unpack_22, e_X2_unpack_23, e_X2_unpack_25, e_X2_unpack_26, e_X2_unpack_27, e_X2_unpack_28, e_X2_unpack_31, e_X2_unpack_33, e_X2_unpack_34, e_X2_unpack_35, e_X2_unpack_38, e_X2_unpack_39, e_X2_unpack_40, e_X2_unpack_43, e_X2_unpack_44, e_X2_unpack_45, e_X2_unpack_48, e_X2_unpack_49, e_X2_unpack_52, e_X2_unpack_54, e_X2_unpack_55, e_X2_unpack_56, e_X2_unpack_57, e_X2_unpack_58, e_X2_unpack_59, e_X2_unpack_60, e_X2_unpack_61, e_X2_unpack_62, e_X2_unpack_65, e_X2_unpack_67, e_X2_unpack_68, e_X2_unpack_69, e_X2_unpack_70, e_X2_unpack_71, e_X2_unpack_72, e_X2_unpack_73, e_X2_unpack_74, e_X2_unpack_75, e_X2_unpack_78, e_X2_unpack_80, e_X2_unpack_81, e_X2_unpack_83, e_X2_unpack_84, e_X2_unpack_85, e_X2_unpack_86, e_X2_unpack_87, e_X2_unpack_88, e_X2_unpack_89, e_X2_unpack_92, e_X2_unpack_94, e_X2_unpack_95, e_X2_unpack_97, e_X2_unpack_98, e_X2_unpack_99, e_X2_unpack_101, e_X2_unpack_102, e_X2_unpack_103, e_X2_unpack_104, e_X2_unpack_106, e_X2_unpack_107, e_X2_unpack_108, e_X2_unpack_111, zpush_i, zpush_l, zpush_v, Option.bind_some, ↓if_pos, ↓if_neg, Int.reduceAdd, w32_id, an1, an3, an7, sr3, sr4, sr6, sr8, sr11, d1, d2, d3, d4, d5, d6, zup_off, zup_self]
    · simp (disch := omega) only [zup_off, zup_self]
      omega
    · by_cases e : u = t
      · subst e
        simp (disch := omega) only [zup_off, zup_self, and_self]
      · have := hu u (by omega) h2
        simp (disch := omega) only [zup_off]
        exact this
def UP (w : zW) (k : Int) (S : Sc) (p : Nat) : Prop := UT w k S 0 ∧ ∀ u : Nat, p ≤ u → u < 3 → w (k + 1) u = S.1 u ∧ w (k + 2) u = ownC (S.1 (3 + u)) ∧ w (k + 3) u = S.1 (6 + u)
theorem UT.off {a i v : Int} {t : Nat} (h : UT w k S t) (ha : a = k + 1 ∨ a = k + 2 ∨ a = k + 3) : UT (zup w a i v) k S t := by
  obtain ⟨hq, hu⟩ := h
  refine ⟨by rw [zup_off _ (Or.inl (by omega))]; exact hq, fun u h1 h2 => ?_⟩
  have := hu u h1 h2
  simp (disch := omega) only [zup_off]
  exact this
theorem r_un_p (hk : isS k) (hP : WP P) (hW : WS0 P S) {p : Nat} (hp : p < 3) (hU : UP w k S (p + 1)) : ∃ w', Rn d 21 117 [(2, k), (1, x), (9, 0), (1, pP S (p + 1)), (9, 0), (0, (p : Int))] [] 92 w = Rn d 21 117 [(2, k), (1, x), (9, 0), (1, pP S p), (9, 0), (0, (p : Int) + -1)] [] 92 w' ∧ UP w' k S p ∧ FR k w w' ∧ w' k 10 = w k 10 := by
  obtain ⟨z0, zn, z1, y1, z2, y2, z3, y3, z4, y4, z5, y5, z6, y6, z7, y7, z8, y8, z9, y9⟩ := sSall hk
  have hd := dP hP hW hp
  have hb : 0 ≤ pP S p ∧ pP S p < 4096 := by
    have := pP_in hP hW
    have e0 : pP S 0 = 0 := rfl
    have : p = 0 ∨ p = 1 ∨ p = 2 := by omega
    rcases this with rfl | rfl | rfl <;> omega
  have es := pP_s S p
  generalize hy : pP S (p + 1) = y at *
  have b0 : 0 ≤ y := by omega
  have b1 : y < 9223372036854775808 := by omega
  have d1 : y % 2 = S.1 (6 + p) := by omega
  have d2 : y / 2 % 8 = ownC (S.1 (3 + p)) := by omega
  have d3 : y / 16 % 4 = S.1 p := by omega
  have d6 : y / 64 = pP S p := by omega
  obtain ⟨hq, hu⟩ := hU
  refine ⟨zup (zup (zup w (k + 3) p (S.1 (6 + p))) (k + 2) p (ownC (S.1 (3 + p)))) (k + 1) p (S.1 p), ?_, ⟨?_, fun u h1 h2 => ?_⟩, ((FR.rf.up (by omega) (by omega)).up (by omega) (by omega)).up (by omega) (by omega), by simp (disch := omega) only [zup_off]⟩
  · rw [e_X2_unpack_117]
    simp (disch := first | assumption | omega | (simp only [zcat_0, zcat_i, zcat_l, zcat_r, zcat_t]; omega) | simp) only [e_X2_unpack_119, e_X2_unpack_122, e_X2_unpack_123, e_X2_unpack_126, e_X2_unpack_128, e_X2_unpack_129, e_X2_unpack_130, e_X2_unpack_131, e_X2_unpack_132, e_X2_unpack_133, e_X2_unpack_134, e_X2_unpack_137, e_X2_unpack_139, e_X2_unpack_140, e_X2_unpack_141, e_X2_unpack_142, e_X2_unpack_143, e_X2_unpack_145, e_X2_unpack_146, e_X2_unpack_147, e_X2_unpack_148, e_X2_unpack_151, e_X2_unpack_153, e_X2_unpack_154, e_X2_unpack_155, e_X2_unpack_156, e_X2_unpack_157, e_X2_unpack_158, e_X2_unpack_159, e_X2_unpack_160, e_X2_unpack_161, e_X2_unpack_163, e_X2_unpack_164, e_X2_unpack_165, e_X2_unpack_168, zpush_i, zpush_l, zpush_v, Option.bind_some, ↓if_pos, ↓if_neg, Int.reduceAdd, w32_id, an1, an3, an7, sr1, sr4, sr6, d1, d2, d3, d6, zup_off, zup_self]
  · exact ((hq.off (by omega)).off (by omega)).off (by omega)
  · by_cases e : u = p
    · subst e
      simp (disch := omega) only [zup_off, zup_self, and_self]
    · have := hu u (by omega) h2
      simp (disch := omega) only [zup_off]
      exact this
theorem r_unpack (hk : isS k) (hP : WP P) (hW : WS0 P S) : ∃ w', Cl d 21 [(2, k), (1, packC S)] 92 w = some ((9, 0), 92, w') ∧ CS w' k S ∧ FR k w w' ∧ w' k 10 = w k 10 := by
  obtain ⟨z0, zn, z1, y1, z2, y2, z3, y3, z4, y4, z5, y5, z6, y6, z7, y7, z8, y8, z9, y9⟩ := sSall hk
  have hl4 := row_len hW
  have U4 : UT (zup w k 9 0) k S (3 + 1) := ⟨by rw [zup_self]; omega, fun u h1 h2 => by omega⟩
  have F4 : FR k w (zup w k 9 0) := FR.rf.up (by omega) (by omega)
  have E4 : (zup w k 9 0) k 10 = w k 10 := zup_off _ (Or.inr (by omega))
  obtain ⟨w3, a3, U3, F3, E3⟩ := r_un_t (d := d) (x := packC S) hk hP hW (t := 3) (by omega) U4
  obtain ⟨w2, a2, U2, F2, E2⟩ := r_un_t (d := d) (x := packC S) hk hP hW (t := 2) (by omega) U3
  obtain ⟨w1, a1, U1, F1, E1⟩ := r_un_t (d := d) (x := packC S) hk hP hW (t := 1) (by omega) U2
  obtain ⟨w0, a0, U0, F0, E0⟩ := r_un_t (d := d) (x := packC S) hk hP hW (t := 0) (by omega) U1
  have V3 : UP w0 k S (2 + 1) := ⟨U0, fun u h1 h2 => by omega⟩
  obtain ⟨v2, b2, V2, G2, H2⟩ := r_un_p (d := d) (x := packC S) hk hP hW (p := 2) (by omega) V3
  obtain ⟨v1, b1, V1, G1, H1⟩ := r_un_p (d := d) (x := packC S) hk hP hW (p := 1) (by omega) V2
  obtain ⟨v0, b0, V0, G0, H0⟩ := r_un_p (d := d) (x := packC S) hk hP hW (p := 0) (by omega) V1
  refine ⟨v0, ?_, ?_, F4.tr (F3.tr (F2.tr (F1.tr (F0.tr (G2.tr (G1.tr G0)))))), by rw [H0, H1, H2, E0, E1, E2, E3, E4]⟩
  · show Rn d 21 0 [(2, k), (1, packC S), (9, 0), (9, 0), (9, 0), (9, 0)] [] 92 w = _
    have ea : Rn d 21 0 [(2, k), (1, packC S), (9, 0), (9, 0), (9, 0), (9, 0)] [] 92 w = Rn d 21 10 [(2, k), (1, packC S), (9, 0), (1, pT S (3 + 1)), (9, 0), (0, ((3 : Nat) : Int))] [] 92 (zup w k 9 0) := by
      simp (disch := first | assumption | omega | (simp only [zcat_0, zcat_i, zcat_l, zcat_r, zcat_t]; omega) | simp) only [e_X2_unpack_0, e_X2_unpack_1, e_X2_unpack_2, e_X2_unpack_3, e_X2_unpack_4, e_X2_unpack_7, e_X2_unpack_8, zpush_i, zpush_l, zpush_v, Option.bind_some, ↓if_pos, ↓if_neg, Int.reduceAdd, w32_id]
      rfl
    have eb : Rn d 21 10 [(2, k), (1, packC S), (9, 0), (1, pT S 0), (9, 0), (0, ((0 : Nat) : Int) + -1)] [] 92 w0 = Rn d 21 117 [(2, k), (1, packC S), (9, 0), (1, pP S (2 + 1)), (9, 0), (0, ((2 : Nat) : Int))] [] 92 w0 := by
      show Rn d 21 10 [(2, k), (1, packC S), (9, 0), (1, pP S 3), (9, 0), (0, -1)] [] 92 w0 = Rn d 21 117 [(2, k), (1, packC S), (9, 0), (1, pP S 3), (9, 0), (0, 2)] [] 92 w0
      simp (disch := first | assumption | omega | (simp only [zcat_0, zcat_i, zcat_l, zcat_r, zcat_t]; omega) | simp) only [e_X2_unpack_10, e_X2_unpack_12, e_X2_unpack_114, e_X2_unpack_115, zpush_i, zpush_l, zpush_v, Option.bind_some, ↓if_pos, ↓if_neg, Int.reduceAdd, w32_id]
    have ec : Rn d 21 117 [(2, k), (1, packC S), (9, 0), (1, pP S 0), (9, 0), (0, ((0 : Nat) : Int) + -1)] [] 92 v0 = some ((9, 0), 92, v0) := by
      show Rn d 21 117 [(2, k), (1, packC S), (9, 0), (1, pP S 0), (9, 0), (0, -1)] [] 92 v0 = some ((9, 0), 92, v0)
      simp (disch := first | assumption | omega | (simp only [zcat_0, zcat_i, zcat_l, zcat_r, zcat_t]; omega) | simp) only [e_X2_unpack_117, e_X2_unpack_119, e_X2_unpack_171, zpush_i, zpush_l, zpush_v, Option.bind_some, ↓if_pos, ↓if_neg, Int.reduceAdd, w32_id]
    rw [ea]
    exact a3.trans (a2.trans (a1.trans (a0.trans (eb.trans (b2.trans (b1.trans (b0.trans ec)))))))
  · obtain ⟨⟨hq, hu⟩, hv⟩ := V0
    refine ⟨fun p h0 h3 => ?_, fun t h0 h4 => ?_, ?_, fun i hi => ?_⟩
    · have := hv p.toNat (by omega) (by omega)
      rw [show ((p.toNat : Nat) : Int) = p by omega] at this
      exact this
    · obtain ⟨c1, c2, c3, c4, -⟩ := hu t.toNat (by omega) (by omega)
      rw [show ((t.toNat : Nat) : Int) = t by omega] at c1 c2 c3 c4
      exact ⟨c1, c2, c3, c4⟩
    · exact hq
    · rw [(hu i (by omega) (by omega)).2.2.2.2]
      exact if_pos hi
end K3
