section K1
variable {x y : Int}
theorem pk1 (h0 : 0 ≤ x) (y0 : 0 ≤ y) (y1 : y < 2) (h : x * 2 + y < 9223372036854775808) : z_lor (z_lshl x 1) y = x * 2 + y := l_pk (m := 1) (by decide +kernel) h0 y0 y1 h
theorem pk2 (h0 : 0 ≤ x) (y0 : 0 ≤ y) (y1 : y < 4) (h : x * 4 + y < 9223372036854775808) : z_lor (z_lshl x 2) y = x * 4 + y := l_pk (m := 2) (by decide +kernel) h0 y0 y1 h
theorem pk3 (h0 : 0 ≤ x) (y0 : 0 ≤ y) (y1 : y < 8) (h : x * 8 + y < 9223372036854775808) : z_lor (z_lshl x 3) y = x * 8 + y := l_pk (m := 3) (by decide +kernel) h0 y0 y1 h
theorem sr1 (h0 : 0 ≤ x) (h : x < 9223372036854775808) : z_lshr x 1 = x / 2 := l_shr (m := 1) (by decide +kernel) h0 h
theorem sr2 (h0 : 0 ≤ x) (h : x < 9223372036854775808) : z_lshr x 2 = x / 4 := l_shr (m := 2) (by decide +kernel) h0 h
theorem sr3 (h0 : 0 ≤ x) (h : x < 9223372036854775808) : z_lshr x 3 = x / 8 := l_shr (m := 3) (by decide +kernel) h0 h
theorem sr4 (h0 : 0 ≤ x) (h : x < 9223372036854775808) : z_lshr x 4 = x / 16 := l_shr (m := 4) (by decide +kernel) h0 h
theorem sr6 (h0 : 0 ≤ x) (h : x < 9223372036854775808) : z_lshr x 6 = x / 64 := l_shr (m := 6) (by decide +kernel) h0 h
theorem sr8 (h0 : 0 ≤ x) (h : x < 9223372036854775808) : z_lshr x 8 = x / 256 := l_shr (m := 8) (by decide +kernel) h0 h
theorem sr11 (h0 : 0 ≤ x) (h : x < 9223372036854775808) : z_lshr x 11 = x / 2048 := l_shr (m := 11) (by decide +kernel) h0 h
theorem an1 (h0 : 0 ≤ x) (h : x < 9223372036854775808) : z_and (z_l2i x) 1 = x % 2 := l_and (m := 1) (by omega) h0 h rfl
theorem an3 (h0 : 0 ≤ x) (h : x < 9223372036854775808) : z_and (z_l2i x) 3 = x % 4 := l_and (m := 2) (by omega) h0 h rfl
theorem an7 (h0 : 0 ≤ x) (h : x < 9223372036854775808) : z_and (z_l2i x) 7 = x % 8 := l_and (m := 3) (by omega) h0 h rfl
end K1
/-- the class's word of a scene -/
def qC (S : Sc) (t : Nat) : Int := if t < S.2.length then S.2.getD t 0 else 4
def pP (S : Sc) : Nat → Int
  | 0 => 0
  | p + 1 => pP S p * 64 + (S.1 p * 16 + ownC (S.1 (3 + p)) * 2 + S.1 (6 + p))
def pT (S : Sc) : Nat → Int
  | 0 => pP S 3
  | t + 1 => pT S t * 2048 + (S.1 (9 + t) * 256 + howC (S.1 (13 + t)) * 64 + whC (S.1 (13 + t)) * 16 + S.1 (17 + t) * 8 + qC S t)
def packC (S : Sc) : Int := pT S 4
theorem pP_s (S : Sc) (p : Nat) : pP S (p + 1) = pP S p * 64 + (S.1 p * 16 + ownC (S.1 (3 + p)) * 2 + S.1 (6 + p)) := rfl
theorem pT_s (S : Sc) (t : Nat) : pT S (t + 1) = pT S t * 2048 + (S.1 (9 + t) * 256 + howC (S.1 (13 + t)) * 64 + whC (S.1 (13 + t)) * 16 + S.1 (17 + t) * 8 + qC S t) := rfl
section K2
variable {d : Nat} {w : zW} {k j t p q n : Int} {S S' : Sc} {P : Pg}
theorem ownC_in (hP : WP P) (hW : WS0 P S) (hp : 0 ≤ p ∧ p < 3) : 0 ≤ ownC (S.1 (3 + p)) ∧ ownC (S.1 (3 + p)) ≤ 4 := by
  obtain ⟨p1, p2, p3, p4, -⟩ := hW.1 p hp.1 hp.2
  have := hP.2.1
  unfold ownC
  split <;> omega
theorem howC_in {x : Int} : 0 ≤ howC x ∧ howC x ≤ 3 := by
  unfold howC
  split
  · omega
  · split
    · omega
    · split <;> omega
theorem whC_in {x : Int} (h : 0 ≤ x) : 0 ≤ whC x ∧ whC x ≤ 3 := by
  unfold whC
  split
  · omega
  · split
    · omega
    · split <;> omega
theorem qC_in (hW : WS0 P S) {t : Nat} : 0 ≤ qC S t ∧ qC S t ≤ 4 := by
  unfold qC
  split
  · next h =>
    have := (hW.2.2.2 _).mp (getD_mem h)
    omega
  · omega
/-- the digits -/
theorem dP (hP : WP P) (hW : WS0 P S) {p : Nat} (hp : p < 3) : 0 ≤ S.1 p ∧ S.1 p ≤ 3 ∧ 0 ≤ ownC (S.1 (3 + p)) ∧ ownC (S.1 (3 + p)) ≤ 4 ∧ 0 ≤ S.1 (6 + p) ∧ S.1 (6 + p) ≤ 1 := by
  obtain ⟨p1, p2, p3, p4, p5⟩ := hW.1 p (by omega) (by omega)
  have := ownC_in (p := (p : Int)) hP hW (by omega)
  omega
theorem dT (hP : WP P) (hW : WS0 P S) {t : Nat} (ht : t < 4) : 0 ≤ S.1 (9 + t) ∧ S.1 (9 + t) ≤ 5 ∧ 0 ≤ howC (S.1 (13 + t)) ∧ howC (S.1 (13 + t)) ≤ 3 ∧ 0 ≤ whC (S.1 (13 + t)) ∧ whC (S.1 (13 + t)) ≤ 3 ∧ 0 ≤ S.1 (17 + t) ∧ S.1 (17 + t) ≤ 1 ∧ 0 ≤ qC S t ∧ qC S t ≤ 4 := by
  obtain ⟨f1, f2, f3, f4, f5, f6⟩ := hW.2.1 t (by omega) (by omega)
  have := howC_in (x := S.1 (13 + t))
  have := whC_in f3
  have := qC_in (t := t) hW
  have := hP.2.2.2.1 t (by omega) (by omega)
  omega
theorem pP_in (hP : WP P) (hW : WS0 P S) : 0 ≤ pP S 1 ∧ pP S 1 < 64 ∧ 0 ≤ pP S 2 ∧ pP S 2 < 4096 ∧ 0 ≤ pP S 3 ∧ pP S 3 < 262144 := by
  have h0 := dP hP hW (p := 0) (by omega)
  have h1 := dP hP hW (p := 1) (by omega)
  have h2 := dP hP hW (p := 2) (by omega)
  have e0 : pP S 0 = 0 := rfl
  have e1 := pP_s S 0
  have e2 := pP_s S 1
  have e3 := pP_s S 2
  simp only [Nat.reduceAdd] at e1 e2 e3
  omega
theorem pT_in (hP : WP P) (hW : WS0 P S) : 0 ≤ pT S 0 ∧ pT S 0 < 262144 ∧ 0 ≤ pT S 1 ∧ pT S 1 < 536870912 ∧ 0 ≤ pT S 2 ∧ pT S 2 < 1099511627776 ∧ 0 ≤ pT S 3 ∧ pT S 3 < 2251799813685248 ∧ 0 ≤ pT S 4 ∧ pT S 4 < 4611686018427387904 := by
  have h := pP_in hP hW
  have h0 := dT hP hW (t := 0) (by omega)
  have h1 := dT hP hW (t := 1) (by omega)
  have h2 := dT hP hW (t := 2) (by omega)
  have h3 := dT hP hW (t := 3) (by omega)
  have e0 : pT S 0 = pP S 3 := rfl
  have e1 := pT_s S 0
  have e2 := pT_s S 1
  have e3 := pT_s S 2
  have e4 := pT_s S 3
  simp only [Nat.reduceAdd] at e1 e2 e3 e4
  omega
theorem r_pk_p (hk : isS k) (hP : WP P) (hW : WS0 P S) (hC : CS w k S) {p : Nat} (hp : p < 3) : Rn d 20 4 [(2, k), (1, pP S p), (9, 0), (0, (p : Int))] [] 92 w = Rn d 20 4 [(2, k), (1, pP S (p + 1)), (9, 0), (0, (p : Int) + 1)] [] 92 w := by
  obtain ⟨z0, zn, z1, y1, z2, y2, z3, y3, z4, y4, z5, y5, z6, y6, z7, y7, z8, y8, z9, y9⟩ := sSall hk
  obtain ⟨c1, c2, c3⟩ := hC.1 p (by omega) (by omega)
  have hd := dP hP hW hp
  have hb : 0 ≤ pP S p ∧ pP S p < 4096 := by
    have := pP_in hP hW
    have e0 : pP S 0 = 0 := rfl
    have : p = 0 ∨ p = 1 ∨ p = 2 := by omega
    rcases this with rfl | rfl | rfl <;> omega
  have e : ((pP S p * 4 + S.1 p) * 8 + ownC (S.1 (3 + p))) * 2 + S.1 (6 + p) = pP S (p + 1) := by
    have : pP S (p + 1) = pP S p * 64 + (S.1 p * 16 + ownC (S.1 (3 + p)) * 2 + S.1 (6 + p)) := rfl
    omega
  rw [e_X2_packed_4]
  simp (disch := first | assumption | omega | (simp only [zcat_0, zcat_i, zcat_l, zcat_r, zcat_t]; omega) | simp) only [e_X2_packed_5, e_X2_packed_6, e_X2_packed_9, e_X2_packed_10, e_X2_packed_11, e_X2_packed_12, e_X2_packed_13, e_X2_packed_16, e_X2_packed_17, e_X2_packed_18, e_X2_packed_19, e_X2_packed_20, e_X2_packed_21, e_X2_packed_22, e_X2_packed_23, e_X2_packed_24, e_X2_packed_25, e_X2_packed_28, e_X2_packed_29, e_X2_packed_30, e_X2_packed_31, e_X2_packed_32, e_X2_packed_33, e_X2_packed_34, e_X2_packed_35, e_X2_packed_36, e_X2_packed_37, e_X2_packed_40, e_X2_packed_41, e_X2_packed_42, e_X2_packed_43, e_X2_packed_44, e_X2_packed_45, e_X2_packed_48, zpush_i, zpush_l, zpush_v, Option.bind_some, ↓if_pos, ↓if_neg, Int.reduceAdd, w32_id, c1, c2, c3, pk1, pk2, pk3, e]
theorem r_pk_t (hk : isS k) (hP : WP P) (hW : WS0 P S) (hC : CS w k S) {t : Nat} (ht : t < 4) : Rn d 20 53 [(2, k), (1, pT S t), (9, 0), (0, (t : Int))] [] 92 w = Rn d 20 53 [(2, k), (1, pT S (t + 1)), (9, 0), (0, (t : Int) + 1)] [] 92 w := by
  obtain ⟨z0, zn, z1, y1, z2, y2, z3, y3, z4, y4, z5, y5, z6, y6, z7, y7, z8, y8, z9, y9⟩ := sSall hk
  obtain ⟨c1, c2, c3, c4⟩ := hC.2.1 t (by omega) (by omega)
  have c5 := hC.2.2.1
  have hd := dT hP hW ht
  have hb : 0 ≤ pT S t ∧ pT S t < 2251799813685248 := by
    have := pT_in hP hW
    have : t = 0 ∨ t = 1 ∨ t = 2 ∨ t = 3 := by omega
    rcases this with rfl | rfl | rfl | rfl <;> omega
  have e : ((((pT S t * 8 + S.1 (9 + t)) * 4 + howC (S.1 (13 + t))) * 4 + whC (S.1 (13 + t))) * 2 + S.1 (17 + t)) * 8 + qC S t = pT S (t + 1) := by
    have : pT S (t + 1) = pT S t * 2048 + (S.1 (9 + t) * 256 + howC (S.1 (13 + t)) * 64 + whC (S.1 (13 + t)) * 16 + S.1 (17 + t) * 8 + qC S t) := rfl
    omega
  rw [e_X2_packed_53]
  by_cases h : t < S.2.length
  · have c6 := hC.2.2.2 t h
    have eq : S.2.getD t 0 = qC S t := (if_pos h).symm
    rw [eq] at c6
    simp (disch := first | assumption | omega | (simp only [zcat_0, zcat_i, zcat_l, zcat_r, zcat_t]; omega) | simp) only [e_X2_packed_54, e_X2_packed_55, e_X2_packed_58, e_X2_packed_59, e_X2_packed_60, e_X2_packed_61, e_X2_packed_62, e_X2_packed_65, e_X2_packed_66, e_X2_packed_67, e_X2_packed_68, e_X2_packed_69, e_X2_packed_70, e_X2_packed_71, e_X2_packed_72, e_X2_packed_73, e_X2_packed_74, e_X2_packed_77, e_X2_packed_78, e_X2_packed_79, e_X2_packed_80, e_X2_packed_81, e_X2_packed_82, e_X2_packed_83, e_X2_packed_84, e_X2_packed_85, e_X2_packed_86, e_X2_packed_89, e_X2_packed_90, e_X2_packed_91, e_X2_packed_92, e_X2_packed_93, e_X2_packed_94, e_X2_packed_95, e_X2_packed_96, e_X2_packed_97, e_X2_packed_98, e_X2_packed_101, e_X2_packed_102, e_X2_packed_103, e_X2_packed_104, e_X2_packed_105, e_X2_packed_106, e_X2_packed_107, e_X2_packed_108, e_X2_packed_109, e_X2_packed_110, e_X2_packed_111, e_X2_packed_114, e_X2_packed_117, e_X2_packed_118, e_X2_packed_121, e_X2_packed_122, e_X2_packed_123, e_X2_packed_126, e_X2_packed_127, e_X2_packed_128, e_X2_packed_129, e_X2_packed_130, e_X2_packed_133, zpush_i, zpush_l, zpush_v, Option.bind_some, ↓if_pos, ↓if_neg, Int.reduceAdd, w32_id, c1, c2, c3, c4, c5, c6, pk1, pk2, pk3, e]
  · have eq : qC S t = 4 := if_neg h
    rw [eq] at e
    simp (disch := first | assumption | omega | (simp only [zcat_0, zcat_i, zcat_l, zcat_r, zcat_t]; omega) | simp) only [e_X2_packed_54, e_X2_packed_55, e_X2_packed_58, e_X2_packed_59, e_X2_packed_60, e_X2_packed_61, e_X2_packed_62, e_X2_packed_65, e_X2_packed_66, e_X2_packed_67, e_X2_packed_68, e_X2_packed_69, e_X2_packed_70, e_X2_packed_71, e_X2_packed_72, e_X2_packed_73, e_X2_packed_74, e_X2_packed_77, e_X2_packed_78, e_X2_packed_79, e_X2_packed_80, e_X2_packed_81, e_X2_packed_82, e_X2_packed_83, e_X2_packed_84, e_X2_packed_85, e_X2_packed_86, e_X2_packed_89, e_X2_packed_90, e_X2_packed_91, e_X2_packed_92, e_X2_packed_93, e_X2_packed_94, e_X2_packed_95, e_X2_packed_96, e_X2_packed_97, e_X2_packed_98, e_X2_packed_101, e_X2_packed_102, e_X2_packed_103, e_X2_packed_104, e_X2_packed_105, e_X2_packed_106, e_X2_packed_107, e_X2_packed_108, e_X2_packed_109, e_X2_packed_110, e_X2_packed_111, e_X2_packed_114, e_X2_packed_117, e_X2_packed_118, e_X2_packed_121, e_X2_packed_122, e_X2_packed_123, e_X2_packed_126, e_X2_packed_127, e_X2_packed_128, e_X2_packed_129, e_X2_packed_130, e_X2_packed_133, zpush_i, zpush_l, zpush_v, Option.bind_some, ↓if_pos, ↓if_neg, Int.reduceAdd, w32_id, c1, c2, c3, c4, c5, pk1, pk2, pk3, e]
theorem r_packed (hk : isS k) (hP : WP P) (hW : WS0 P S) (hC : CS w k S) : Cl d 20 [(2, k)] 92 w = some ((1, packC S), 92, w) := by
  obtain ⟨z0, zn, z1, y1, z2, y2, z3, y3, z4, y4, z5, y5, z6, y6, z7, y7, z8, y8, z9, y9⟩ := sSall hk
  have p0 := r_pk_p (d := d) hk hP hW hC (p := 0) (by omega)
  have p1 := r_pk_p (d := d) hk hP hW hC (p := 1) (by omega)
  have p2 := r_pk_p (d := d) hk hP hW hC (p := 2) (by omega)
  have t0 := r_pk_t (d := d) hk hP hW hC (t := 0) (by omega)
  have t1 := r_pk_t (d := d) hk hP hW hC (t := 1) (by omega)
  have t2 := r_pk_t (d := d) hk hP hW hC (t := 2) (by omega)
  have t3 := r_pk_t (d := d) hk hP hW hC (t := 3) (by omega)
  show Rn d 20 0 [(2, k), (9, 0), (9, 0), (9, 0)] [] 92 w = _
  have ea : Rn d 20 0 [(2, k), (9, 0), (9, 0), (9, 0)] [] 92 w = Rn d 20 4 [(2, k), (1, 0), (9, 0), (0, 0)] [] 92 w := by
    simp (disch := first | assumption | omega | (simp only [zcat_0, zcat_i, zcat_l, zcat_r, zcat_t]; omega) | simp) only [e_X2_packed_0, e_X2_packed_1, e_X2_packed_2, e_X2_packed_3, zpush_i, zpush_l, zpush_v, Option.bind_some, ↓if_pos, ↓if_neg, Int.reduceAdd, w32_id]
  have eb : Rn d 20 4 [(2, k), (1, pP S 3), (9, 0), (0, 3)] [] 92 w = Rn d 20 53 [(2, k), (1, pT S 0), (9, 0), (0, 0)] [] 92 w := by
    simp (disch := first | assumption | omega | (simp only [zcat_0, zcat_i, zcat_l, zcat_r, zcat_t]; omega) | simp) only [e_X2_packed_4, e_X2_packed_5, e_X2_packed_6, e_X2_packed_51, e_X2_packed_52, zpush_i, zpush_l, zpush_v, Option.bind_some, ↓if_pos, ↓if_neg, Int.reduceAdd, w32_id]
    rfl
  have ec : Rn d 20 53 [(2, k), (1, pT S 4), (9, 0), (0, 4)] [] 92 w = some ((1, pT S 4), 92, w) := by
    simp (disch := first | assumption | omega | (simp only [zcat_0, zcat_i, zcat_l, zcat_r, zcat_t]; omega) | simp) only [e_X2_packed_53, e_X2_packed_54, e_X2_packed_55, e_X2_packed_136, e_X2_packed_137, zpush_i, zpush_l, zpush_v, Option.bind_some, ↓if_pos, ↓if_neg, Int.reduceAdd, w32_id]
  rw [ea]
  exact ((((((((p0.trans p1).trans p2).trans eb).trans t0).trans t1).trans t2).trans t3).trans ec)
end K2
