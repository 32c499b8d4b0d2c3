/-! WHAT IS COUNTED OVER ALL THAT WAS FOUND: 0 ends, 1 stuck, 2 first end, 3 first stuck, 4 sleepers, 5.. finals, 8.. owners -/
abbrev bEnd (S : Sc) : Prop := S.1 13 ≠ 0 ∧ S.1 14 ≠ 0 ∧ S.1 15 ≠ 0 ∧ S.1 16 ≠ 0
abbrev bDn (S : Sc) : Prop := S.1 13 = 7 ∧ S.1 14 = 7 ∧ S.1 15 = 7 ∧ S.1 16 = 7
def oB (S : Sc) (p : Int) : Int := if S.1 (3 + p) = 0 then 0 else z_shl 1 (S.1 (3 + p) - 1)
def sB (S : Sc) (t : Int) : Int := if S.1 (13 + t) = 7 then 0 else z_shl 1 t
def aWo (S : Sc) (a : Int → Int) : Int → Int := su (su (su a 8 (z_or (a 8) (oB S 0))) 9 (z_or (a 9) (oB S 1))) 10 (z_or (a 10) (oB S 2))
def aWe (S : Sc) (i : Int) (a : Int → Int) : Int → Int := su (su (su (su (su a 2 (if a 0 = 0 then i else a 2)) 0 (a 0 + 1)) 5 (z_or (a 5) (z_shl 1 (S.1 0)))) 6 (z_or (a 6) (z_shl 1 (S.1 1)))) 7 (z_or (a 7) (z_shl 1 (S.1 2)))
def aWk (S : Sc) (i : Int) (a : Int → Int) : Int → Int := su (su (su a 3 (if a 1 = 0 then i else a 3)) 1 (a 1 + 1)) 4 (z_or (z_or (z_or (z_or (a 4) (sB S 0)) (sB S 1)) (sB S 2)) (sB S 3))
def aWb (S : Sc) (i : Int) (a : Int → Int) : Int → Int := if bEnd S then aWe S i (aWo S a) else aWo S a
def aW (S : Sc) (i : Int) (a : Int → Int) : Int → Int := if bEnd S ∧ ¬ bDn S then aWk S i (aWb S i a) else aWb S i a
def a00 : Int → Int := su (su (fun _ => 0) 2 (-1)) 3 (-1)
def aWs (L : BL) : Nat → Int → Int
  | 0 => a00
  | i + 1 => aW (eS L i) i (aWs L i)
def AI (a : Int → Int) (i : Nat) : Prop := 0 ≤ a 0 ∧ a 0 ≤ i ∧ 0 ≤ a 1 ∧ a 1 ≤ i ∧ ∀ k, 4 ≤ k → k ≤ 10 → w32 (a k) = a k
def CW (w : zW) (a : Int → Int) : Prop := w 41 10 = a 0 ∧ w 41 11 = a 1 ∧ w 41 12 = a 2 ∧ w 41 13 = a 3 ∧ w 41 14 = a 4 ∧ ∀ p, 0 ≤ p → p < 3 → w 65 p = a (5 + p) ∧ w 66 p = a (8 + p)
theorem z_or_w (x y : Int) : w32 (z_or x y) = z_or x y := by
  unfold z_or w32
  have h1 := Int32.toInt_lt (Int32.ofInt x ||| Int32.ofInt y)
  have h2 := Int32.le_toInt (Int32.ofInt x ||| Int32.ofInt y)
  exact Int.bmod_eq_of_le (by omega) (by omega)
theorem z_or0 {x : Int} (h : w32 x = x) : z_or x 0 = x := by
  unfold z_or
  have : Int32.ofInt x ||| Int32.ofInt 0 = Int32.ofInt x := by
    apply Int32.toBitVec_inj.mp
    rw [Int32.toBitVec_or]
    show _ ||| (0#32) = _
    rw [BitVec.or_zero]
  rw [this, Int32.toInt_ofInt]
  exact h
theorem zup_id (w : zW) (a i : Int) : zup w a i (w a i) = w := by
  funext b j
  unfold zup
  split
  · next h => rw [h.1, h.2]
  · rfl
theorem AI.zero : AI a00 0 := by
  refine ⟨by decide, by decide, by decide, by decide, fun k h1 h2 => ?_⟩
  have : a00 k = 0 := by
    unfold a00
    rw [su_ne _ (by omega), su_ne _ (by omega)]
  rw [this]
  rfl
theorem AI.o {a : Int → Int} {i : Nat} {S : Sc} (h : AI a i) : AI (aWo S a) i := by
  obtain ⟨h1, h2, h3, h4, h5⟩ := h
  unfold aWo
  refine ⟨by simp (disch := omega) only [su_ne]; exact h1, by simp (disch := omega) only [su_ne]; exact h2, by simp (disch := omega) only [su_ne]; exact h3, by simp (disch := omega) only [su_ne]; exact h4, fun k k1 k2 => ?_⟩
  by_cases c1 : k = 10
  · subst c1; rw [su_self]; exact z_or_w _ _
  rw [su_ne _ c1]
  by_cases c2 : k = 9
  · subst c2; rw [su_self]; exact z_or_w _ _
  rw [su_ne _ c2]
  by_cases c3 : k = 8
  · subst c3; rw [su_self]; exact z_or_w _ _
  rw [su_ne _ c3]
  exact h5 k k1 k2
theorem AI.e {a : Int → Int} {i : Nat} {S : Sc} {x : Int} (h : AI a i) : 0 ≤ aWe S x a 0 ∧ aWe S x a 0 ≤ i + 1 ∧ 0 ≤ aWe S x a 1 ∧ aWe S x a 1 ≤ i ∧ ∀ k, 4 ≤ k → k ≤ 10 → w32 (aWe S x a k) = aWe S x a k := by
  obtain ⟨h1, h2, h3, h4, h5⟩ := h
  unfold aWe
  refine ⟨by simp (disch := omega) only [su_ne, su_self]; omega, by simp (disch := omega) only [su_ne, su_self]; omega, by simp (disch := omega) only [su_ne]; exact h3, by simp (disch := omega) only [su_ne]; exact h4, fun k k1 k2 => ?_⟩
  by_cases c1 : k = 7
  · subst c1; rw [su_self]; exact z_or_w _ _
  rw [su_ne _ c1]
  by_cases c2 : k = 6
  · subst c2; rw [su_self]; exact z_or_w _ _
  rw [su_ne _ c2]
  by_cases c3 : k = 5
  · subst c3; rw [su_self]; exact z_or_w _ _
  rw [su_ne _ c3, su_ne _ (by omega), su_ne _ (by omega)]
  exact h5 k k1 k2
theorem AI.b {a : Int → Int} {i : Nat} {S : Sc} {x : Int} (h : AI a i) : 0 ≤ aWb S x a 0 ∧ aWb S x a 0 ≤ i + 1 ∧ 0 ≤ aWb S x a 1 ∧ aWb S x a 1 ≤ i ∧ ∀ k, 4 ≤ k → k ≤ 10 → w32 (aWb S x a k) = aWb S x a k := by
  unfold aWb
  split
  · exact h.o.e
  · obtain ⟨h1, h2, h3, h4, h5⟩ := h.o (S := S)
    exact ⟨h1, by omega, h3, h4, h5⟩
theorem AI.s {a : Int → Int} {i : Nat} {S : Sc} {x : Int} (h : AI a i) : AI (aW S x a) (i + 1) := by
  obtain ⟨h1, h2, h3, h4, h5⟩ := h.b (S := S) (x := x)
  unfold aW
  split
  · unfold aWk
    refine ⟨by simp (disch := omega) only [su_ne, su_self]; omega, by simp (disch := omega) only [su_ne, su_self]; omega, by simp (disch := omega) only [su_ne, su_self]; omega, by simp (disch := omega) only [su_ne, su_self]; omega, fun k k1 k2 => ?_⟩
    by_cases c1 : k = 4
    · subst c1; rw [su_self]; exact z_or_w _ _
    rw [su_ne _ c1, su_ne _ (by omega), su_ne _ (by omega)]
    exact h5 k k1 k2
  · exact ⟨h1, by omega, h3, by omega, h5⟩
theorem AI.all (L : BL) : ∀ i : Nat, AI (aWs L i) i
  | 0 => AI.zero
  | i + 1 => (AI.all L i).s
section W1
variable {d : Nat} {w : zW} {k j t p q n : Int} {S : Sc} {P : Pg} {a : Int → Int}
theorem howC0 {x : Int} (h : 0 ≤ x ∧ x ≤ 7) : howC x = 0 ↔ x = 0 := by
  unfold howC
  split
  · omega
  · split
    · omega
    · split <;> omega
theorem howC3 {x : Int} (h : 0 ≤ x ∧ x ≤ 7) : howC x = 3 ↔ x = 7 := by
  unfold howC
  split
  · omega
  · split
    · omega
    · split <;> omega
theorem r_end1 (hk : isS k) (hW : WS0 P S) (hC : CS w k S) (h0 : 0 ≤ t) (h4 : t < 4) (h : S.1 (13 + t) ≠ 0) : Rn d 22 2 [(2, k), (0, t)] [] 92 w = Rn d 22 2 [(2, k), (0, t + 1)] [] 92 w := by
  obtain ⟨z0, zn, z1, y1, z2, y2, z3, y3, z4, y4, z5, y5, z6, y6, z7, y7, z8, y8, z9, y9⟩ := sSall hk
  obtain ⟨f1, f2, f3, f4, f5, f6⟩ := hW.2.1 t h0 h4
  have c := (hC.2.1 t h0 h4).2.1
  have c' : w (k + 5) t ≠ 0 := by rw [c]; exact fun z => h ((howC0 ⟨f3, f4⟩).mp z)
  rw [e_X2_isEnd_2]
  simp (disch := first | assumption | omega | (simp only [zcat_0, zcat_i, zcat_l, zcat_r, zcat_t]; omega) | simp) only [e_X2_isEnd_3, e_X2_isEnd_4, e_X2_isEnd_7, e_X2_isEnd_8, e_X2_isEnd_11, e_X2_isEnd_12, e_X2_isEnd_13, e_X2_isEnd_16, e_X2_isEnd_17, e_X2_isEnd_18, e_X2_isEnd_21, zpush_i, zpush_l, zpush_v, Option.bind_some, ↓if_pos, ↓if_neg, Int.reduceAdd, w32_id]
theorem r_end0 (hk : isS k) (hC : CS w k S) (h0 : 0 ≤ t) (h4 : t < 4) (h : S.1 (13 + t) = 0) : Rn d 22 2 [(2, k), (0, t)] [] 92 w = some ((0, 0), 92, w) := by
  obtain ⟨z0, zn, z1, y1, z2, y2, z3, y3, z4, y4, z5, y5, z6, y6, z7, y7, z8, y8, z9, y9⟩ := sSall hk
  have c := (hC.2.1 t h0 h4).2.1
  rw [h] at c
  have c' : w (k + 5) t = 0 := c
  simp (disch := first | assumption | omega | (simp only [zcat_0, zcat_i, zcat_l, zcat_r, zcat_t]; omega) | simp) only [e_X2_isEnd_2, e_X2_isEnd_3, e_X2_isEnd_4, e_X2_isEnd_7, e_X2_isEnd_8, e_X2_isEnd_11, e_X2_isEnd_12, e_X2_isEnd_13, e_X2_isEnd_16, e_X2_isEnd_17, zpush_i, zpush_l, zpush_v, Option.bind_some, ↓if_pos, ↓if_neg, Int.reduceAdd, w32_id, c']
theorem r_isEnd (hk : isS k) (hW : WS0 P S) (hC : CS w k S) : Cl d 22 [(2, k)] 92 w = some ((0, if bEnd S then 1 else 0), 92, w) := by
  show Rn d 22 0 [(2, k), (9, 0)] [] 92 w = _
  obtain ⟨z0, zn, z1, y1, z2, y2, z3, y3, z4, y4, z5, y5, z6, y6, z7, y7, z8, y8, z9, y9⟩ := sSall hk
  have ea : Rn d 22 0 [(2, k), (9, 0)] [] 92 w = Rn d 22 2 [(2, k), (0, 0)] [] 92 w := by
    simp (disch := first | assumption | omega | (simp only [zcat_0, zcat_i, zcat_l, zcat_r, zcat_t]; omega) | simp) only [e_X2_isEnd_0, e_X2_isEnd_1, zpush_i, zpush_l, zpush_v, Option.bind_some, ↓if_pos, ↓if_neg, Int.reduceAdd, w32_id]
  rw [ea]
  by_cases h0 : S.1 13 = 0
  · rw [if_neg (fun z => z.1 h0)]
    exact r_end0 hk hC (by omega) (by omega) h0
  rw [r_end1 hk hW hC (by omega) (by omega) h0]
  by_cases h1 : S.1 14 = 0
  · rw [if_neg (fun z => z.2.1 h1)]
    exact r_end0 (t := 1) hk hC (by omega) (by omega) h1
  have s1 := r_end1 (d := d) (t := 1) hk hW hC (by omega) (by omega) h1
  have s1' : Rn d 22 2 [(2, k), (0, 0 + 1)] [] 92 w = _ := s1
  rw [s1']
  by_cases h2 : S.1 15 = 0
  · rw [if_neg (fun z => z.2.2.1 h2)]
    exact r_end0 (t := 2) hk hC (by omega) (by omega) h2
  have s2 := r_end1 (d := d) (t := 2) hk hW hC (by omega) (by omega) h2
  have s2' : Rn d 22 2 [(2, k), (0, 1 + 1)] [] 92 w = _ := s2
  rw [s2']
  by_cases h3 : S.1 16 = 0
  · rw [if_neg (fun z => z.2.2.2 h3)]
    exact r_end0 (t := 3) hk hC (by omega) (by omega) h3
  have s3 := r_end1 (d := d) (t := 3) hk hW hC (by omega) (by omega) h3
  have s3' : Rn d 22 2 [(2, k), (0, 2 + 1)] [] 92 w = _ := s3
  rw [s3', if_pos ⟨h0, h1, h2, h3⟩]
  simp (disch := first | assumption | omega | (simp only [zcat_0, zcat_i, zcat_l, zcat_r, zcat_t]; omega) | simp) only [e_X2_isEnd_2, e_X2_isEnd_3, e_X2_isEnd_4, e_X2_isEnd_24, e_X2_isEnd_25, zpush_i, zpush_l, zpush_v, Option.bind_some, ↓if_pos, ↓if_neg, Int.reduceAdd, w32_id]
theorem r_stk1 (hk : isS k) (hW : WS0 P S) (hC : CS w k S) (h0 : 0 ≤ t) (h4 : t < 4) {b : Int} : Rn d 23 4 [(2, k), (0, b), (0, t)] [] 92 w = Rn d 23 4 [(2, k), (0, if S.1 (13 + t) = 7 then b else 0), (0, t + 1)] [] 92 w := by
  obtain ⟨z0, zn, z1, y1, z2, y2, z3, y3, z4, y4, z5, y5, z6, y6, z7, y7, z8, y8, z9, y9⟩ := sSall hk
  obtain ⟨f1, f2, f3, f4, f5, f6⟩ := hW.2.1 t h0 h4
  have c := (hC.2.1 t h0 h4).2.1
  rw [e_X2_isStuck_4]
  by_cases h : S.1 (13 + t) = 7
  · rw [if_pos h]
    have c' : w (k + 5) t = 3 := by rw [c]; exact (howC3 ⟨f3, f4⟩).mpr h
    simp (disch := first | assumption | omega | (simp only [zcat_0, zcat_i, zcat_l, zcat_r, zcat_t]; omega) | simp) only [e_X2_isStuck_5, e_X2_isStuck_6, e_X2_isStuck_9, e_X2_isStuck_10, e_X2_isStuck_13, e_X2_isStuck_14, e_X2_isStuck_15, e_X2_isStuck_16, e_X2_isStuck_19, e_X2_isStuck_20, e_X2_isStuck_21, e_X2_isStuck_24, zpush_i, zpush_l, zpush_v, Option.bind_some, ↓if_pos, ↓if_neg, Int.reduceAdd, w32_id, c']
  · rw [if_neg h]
    have c' : w (k + 5) t ≠ 3 := by rw [c]; exact fun z => h ((howC3 ⟨f3, f4⟩).mp z)
    simp (disch := first | assumption | omega | (simp only [zcat_0, zcat_i, zcat_l, zcat_r, zcat_t]; omega) | simp) only [e_X2_isStuck_5, e_X2_isStuck_6, e_X2_isStuck_9, e_X2_isStuck_10, e_X2_isStuck_13, e_X2_isStuck_14, e_X2_isStuck_15, e_X2_isStuck_16, e_X2_isStuck_19, e_X2_isStuck_20, e_X2_isStuck_21, e_X2_isStuck_24, zpush_i, zpush_l, zpush_v, Option.bind_some, ↓if_pos, ↓if_neg, Int.reduceAdd, w32_id]
theorem r_isStuck (hk : isS k) (hW : WS0 P S) (hC : CS w k S) : Cl (d + 1) 23 [(2, k)] 92 w = some ((0, if bEnd S ∧ ¬ bDn S then 1 else 0), 92, w) := by
  show Rn (d + 1) 23 0 [(2, k), (9, 0), (9, 0)] [] 92 w = _
  obtain ⟨z0, zn, z1, y1, z2, y2, z3, y3, z4, y4, z5, y5, z6, y6, z7, y7, z8, y8, z9, y9⟩ := sSall hk
  have ea : Rn (d + 1) 23 0 [(2, k), (9, 0), (9, 0)] [] 92 w = Rn (d + 1) 23 4 [(2, k), (0, 1), (0, 0)] [] 92 w := by
    simp (disch := first | assumption | omega | (simp only [zcat_0, zcat_i, zcat_l, zcat_r, zcat_t]; omega) | simp) only [e_X2_isStuck_0, e_X2_isStuck_1, e_X2_isStuck_2, e_X2_isStuck_3, zpush_i, zpush_l, zpush_v, Option.bind_some, ↓if_pos, ↓if_neg, Int.reduceAdd, w32_id]
  have s0 := r_stk1 (d := d + 1) (t := 0) (b := 1) hk hW hC (by omega) (by omega)
  have s1 := r_stk1 (d := d + 1) (t := 1) (b := if S.1 (13 + 0) = 7 then 1 else 0) hk hW hC (by omega) (by omega)
  have s2 := r_stk1 (d := d + 1) (t := 2) (b := if S.1 (13 + 1) = 7 then (if S.1 (13 + 0) = 7 then 1 else 0) else 0) hk hW hC (by omega) (by omega)
  have s3 := r_stk1 (d := d + 1) (t := 3) (b := if S.1 (13 + 2) = 7 then (if S.1 (13 + 1) = 7 then (if S.1 (13 + 0) = 7 then 1 else 0) else 0) else 0) hk hW hC (by omega) (by omega)
  have eb : (if S.1 (13 + 3) = 7 then (if S.1 (13 + 2) = 7 then (if S.1 (13 + 1) = 7 then (if S.1 (13 + 0) = 7 then 1 else 0) else 0) else 0) else (0 : Int)) = if bDn S then 1 else 0 := by
    show (if S.1 16 = 7 then (if S.1 15 = 7 then (if S.1 14 = 7 then (if S.1 13 = 7 then 1 else 0) else 0) else 0) else (0 : Int)) = if bDn S then 1 else 0
    by_cases h3 : S.1 16 = 7
    · rw [if_pos h3]
      by_cases h2 : S.1 15 = 7
      · rw [if_pos h2]
        by_cases h1 : S.1 14 = 7
        · rw [if_pos h1]
          by_cases h0 : S.1 13 = 7
          · rw [if_pos h0, if_pos ⟨h0, h1, h2, h3⟩]
          · rw [if_neg h0, if_neg (fun z => h0 z.1)]
        · rw [if_neg h1, if_neg (fun z => h1 z.2.1)]
      · rw [if_neg h2, if_neg (fun z => h2 z.2.2.1)]
    · rw [if_neg h3, if_neg (fun z => h3 z.2.2.2)]
  rw [eb] at s3
  have he := r_isEnd (d := d) hk hW hC
  rw [ea, s0.trans (s1.trans (s2.trans s3))]
  by_cases h1 : bEnd S
  · rw [if_pos h1] at he
    by_cases h2 : bDn S
    · rw [if_pos h2, if_neg (fun z => z.2 h2)]
      simp (disch := first | assumption | omega | (simp only [zcat_0, zcat_i, zcat_l, zcat_r, zcat_t]; omega) | simp) only [e_X2_isStuck_4, e_X2_isStuck_5, e_X2_isStuck_6, e_X2_isStuck_27, e_X2_isStuck_28, e_X2_isStuck_31, e_X2_isStuck_34, e_X2_isStuck_35, e_X2_isStuck_38, e_X2_isStuck_39, e_X2_isStuck_42, e_X2_isStuck_43, zpush_i, zpush_l, zpush_v, Option.bind_some, ↓if_pos, ↓if_neg, Int.reduceAdd, w32_id, he]
    · rw [if_neg h2, if_pos ⟨h1, h2⟩]
      simp (disch := first | assumption | omega | (simp only [zcat_0, zcat_i, zcat_l, zcat_r, zcat_t]; omega) | simp) only [e_X2_isStuck_4, e_X2_isStuck_5, e_X2_isStuck_6, e_X2_isStuck_27, e_X2_isStuck_28, e_X2_isStuck_31, e_X2_isStuck_34, e_X2_isStuck_35, e_X2_isStuck_38, e_X2_isStuck_39, e_X2_isStuck_42, e_X2_isStuck_43, zpush_i, zpush_l, zpush_v, Option.bind_some, ↓if_pos, ↓if_neg, Int.reduceAdd, w32_id, he]
  · rw [if_neg h1] at he
    rw [if_neg (show ¬ (bEnd S ∧ ¬ bDn S) from fun z => h1 z.1)]
    simp (disch := first | assumption | omega | (simp only [zcat_0, zcat_i, zcat_l, zcat_r, zcat_t]; omega) | simp) only [e_X2_isStuck_4, e_X2_isStuck_5, e_X2_isStuck_6, e_X2_isStuck_27, e_X2_isStuck_28, e_X2_isStuck_31, e_X2_isStuck_34, e_X2_isStuck_35, e_X2_isStuck_38, e_X2_isStuck_39, e_X2_isStuck_42, e_X2_isStuck_43, zpush_i, zpush_l, zpush_v, Option.bind_some, ↓if_pos, ↓if_neg, Int.reduceAdd, w32_id, he]
end W1
