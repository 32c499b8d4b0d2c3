section T2
variable {d : Nat} {w : zW} {n p : Int} {S : Sc} {P : Pg} {L : BL} {a : Int → Int} {Q : Sg} {c1 c2 : Int}
def cF (Q : Sg) (L : BL) : Nat → Int
  | 0 => 0
  | i + 1 => cF Q L i + (if bEnd (eS L i) ∧ fF Q (eS L i) Q.length = 1 then 1 else 0)
def cK (Q : Sg) (L : BL) : Nat → Int
  | 0 => 0
  | i + 1 => cK Q L i + (if (bEnd (eS L i) ∧ ¬ bDn (eS L i)) ∧ fF Q (eS L i) Q.length = 1 then 1 else 0)
def MW (w : zW) (L : BL) (a : Int → Int) (c1 c2 : Int) : Prop := w 67 29 = a 0 ∧ w 67 30 = a 1 ∧ w 67 31 = (if a 0 = 0 then -9 else eD L (a 2).toNat) ∧ w 67 32 = (if a 1 = 0 then -9 else a 3) ∧ w 67 35 = a 4 ∧ w 67 36 = c1 ∧ w 67 37 = c2 ∧ ∀ p, 0 ≤ p → p < 3 → w 86 p = a (5 + p) ∧ w 87 p = a (8 + p)
def AJ (a : Int → Int) (i : Nat) : Prop := (a 0 ≠ 0 → 0 ≤ a 2 ∧ a 2 < i) ∧ (a 1 ≠ 0 → 0 ≤ a 3 ∧ a 3 < i)
/-- nothing has changed but what is counted -/
def FC (w w' : zW) : Prop := ∀ b j, b ≠ 86 → b ≠ 87 → (b ≠ 67 ∨ j < 29 ∨ 37 < j) → w' b j = w b j
theorem FC.rf : FC w w := fun _ _ _ _ _ => rfl
theorem FC.tr {w' w'' : zW} (h : FC w w') (h' : FC w' w'') : FC w w'' := fun b j h1 h2 h3 => (h' b j h1 h2 h3).trans (h b j h1 h2 h3)
theorem FC.rs {w' : zW} (h : FC w w') (hR : RS w n S) : RS w' n S := hR.at (by funext j; exact h 72 j (by omega) (by omega) (by omega))
theorem FC.po {w' : zW} (h : FC w w') (hO : PO w P) : PO w' P := by
  have e : ∀ b, b ≠ 86 → b ≠ 87 → b ≠ 67 → w' b = w b := fun b h1 h2 h3 => by
    funext j
    exact h b j h1 h2 (Or.inl h3)
  unfold PO
  rw [h 67 1 (by omega) (by omega) (by omega), e 68 (by omega) (by omega) (by omega), e 69 (by omega) (by omega) (by omega), e 70 (by omega) (by omega) (by omega), e 71 (by omega) (by omega) (by omega)]
  exact hO
theorem FC.sg {w' : zW} (h : FC w w') (hM : MSg w Q) : MSg w' Q := by
  have e : w' 88 = w 88 := by funext j; exact h 88 j (by omega) (by omega) (by omega)
  unfold MSg
  rw [h 67 39 (by omega) (by omega) (by omega), e]
  exact hM
theorem FC.ml {w' : zW} (h : FC w w') (hM : ML w n L) : ML w' n L := by
  have e : ∀ b, b ≠ 86 → b ≠ 87 → b ≠ 67 → w' b = w b := fun b h1 h2 h3 => by
    funext j
    exact h b j h1 h2 (Or.inl h3)
  unfold ML
  rw [h 67 28 (by omega) (by omega) (by omega), e 81 (by omega) (by omega) (by omega), e 82 (by omega) (by omega) (by omega), e 83 (by omega) (by omega) (by omega), e 84 (by omega) (by omega) (by omega), e 85 (by omega) (by omega) (by omega)]
  exact hM
theorem m_ce_a {i : Nat} {s f : Int} (hs : s = 0 ∨ s = 1) (hf : f = 0 ∨ f = 1) (hi : i < 3001) (h1 : Cl (d + 1) 129 [(2, 67)] 92 w = some ((0, s), 92, w)) (h2 : Cl (d + 1) 132 [(2, 67)] 92 w = some ((0, f), 92, w)) (b1 : 0 ≤ w 67 29 ∧ w 67 29 < 100000) (b2 : 0 ≤ w 67 30 ∧ w 67 30 < 100000) (b3 : 0 ≤ w 67 36 ∧ w 67 36 < 100000) (b4 : 0 ≤ w 67 37 ∧ w 67 37 < 100000) : ∃ w', Cl (d + 2) 133 [(2, 67), (0, (i : Int))] 92 w = Rn (d + 2) 133 128 [(2, 67), (0, (i : Int)), (0, s), (0, f), (0, 0)] [] 92 w' ∧ w' 67 29 = w 67 29 + 1 ∧ w' 67 30 = w 67 30 + s ∧ w' 67 31 = (if w 67 31 < 0 then w 84 i else w 67 31) ∧ w' 67 32 = (if s = 1 ∧ w 67 32 < 0 then (i : Int) else w 67 32) ∧ w' 67 36 = w 67 36 + f ∧ w' 67 37 = w 67 37 + (if s = 1 ∧ f = 1 then 1 else 0) ∧ (∀ b j, b ≠ 67 ∨ j < 29 ∨ 37 < j ∨ j = 35 → w' b j = w b j) := by
  have zo67 := zo_67; have zo84 := zo_84; have zl84 := zl_84
  obtain ⟨w1, e1⟩ : ∃ w1, zup (zup (zup (zup (zup (zup w 67 29 (w 67 29 + 1)) 67 30 (w 67 30 + s)) 67 31 (if w 67 31 < 0 then w 84 i else w 67 31)) 67 32 (if s = 1 ∧ w 67 32 < 0 then (i : Int) else w 67 32)) 67 36 (w 67 36 + f)) 67 37 (w 67 37 + (if s = 1 ∧ f = 1 then 1 else 0)) = w1 := ⟨_, rfl⟩
  refine ⟨w1, ?_, ?_, ?_, ?_, ?_, ?_, ?_, fun b j h => ?_⟩
  · show Rn (d + 2) 133 0 [(2, 67), (0, (i : Int)), (9, 0), (9, 0), (9, 0)] [] 92 w = _
    rw [← e1]
    by_cases g1 : w 67 31 < 0
    · by_cases g2 : w 67 32 < 0
      · rcases hs with rfl | rfl <;> rcases hf with rfl | rfl <;> simp (disch := first | assumption | omega | (simp only [zcat_0, zcat_i, zcat_l, zcat_r, zcat_t]; omega) | simp) only [e_X8_countEnd_0, e_X8_countEnd_1, e_X8_countEnd_4, e_X8_countEnd_5, e_X8_countEnd_6, e_X8_countEnd_9, e_X8_countEnd_10, e_X8_countEnd_11, e_X8_countEnd_12, e_X8_countEnd_15, e_X8_countEnd_16, e_X8_countEnd_17, e_X8_countEnd_20, e_X8_countEnd_21, e_X8_countEnd_22, e_X8_countEnd_25, e_X8_countEnd_26, e_X8_countEnd_29, e_X8_countEnd_30, e_X8_countEnd_33, e_X8_countEnd_34, e_X8_countEnd_35, e_X8_countEnd_38, e_X8_countEnd_39, e_X8_countEnd_40, e_X8_countEnd_43, e_X8_countEnd_46, e_X8_countEnd_47, e_X8_countEnd_50, e_X8_countEnd_51, e_X8_countEnd_52, e_X8_countEnd_55, e_X8_countEnd_56, e_X8_countEnd_59, e_X8_countEnd_62, e_X8_countEnd_63, e_X8_countEnd_64, e_X8_countEnd_67, e_X8_countEnd_68, e_X8_countEnd_71, e_X8_countEnd_74, e_X8_countEnd_75, e_X8_countEnd_78, e_X8_countEnd_79, e_X8_countEnd_82, e_X8_countEnd_85, e_X8_countEnd_86, e_X8_countEnd_87, e_X8_countEnd_90, e_X8_countEnd_91, e_X8_countEnd_94, e_X8_countEnd_95, e_X8_countEnd_98, e_X8_countEnd_99, e_X8_countEnd_100, e_X8_countEnd_103, e_X8_countEnd_104, e_X8_countEnd_105, e_X8_countEnd_108, e_X8_countEnd_109, e_X8_countEnd_112, e_X8_countEnd_113, e_X8_countEnd_116, e_X8_countEnd_117, e_X8_countEnd_120, e_X8_countEnd_121, e_X8_countEnd_122, e_X8_countEnd_125, e_X8_countEnd_126, zpush_i, zpush_l, zpush_v, Option.bind_some, ↓if_pos, ↓if_neg, Int.reduceAdd, w32_id, h1, h2, zup_off]
      · rcases hs with rfl | rfl <;> rcases hf with rfl | rfl <;> simp (disch := first | assumption | omega | (simp only [zcat_0, zcat_i, zcat_l, zcat_r, zcat_t]; omega) | simp) only [e_X8_countEnd_0, e_X8_countEnd_1, e_X8_countEnd_4, e_X8_countEnd_5, e_X8_countEnd_6, e_X8_countEnd_9, e_X8_countEnd_10, e_X8_countEnd_11, e_X8_countEnd_12, e_X8_countEnd_15, e_X8_countEnd_16, e_X8_countEnd_17, e_X8_countEnd_20, e_X8_countEnd_21, e_X8_countEnd_22, e_X8_countEnd_25, e_X8_countEnd_26, e_X8_countEnd_29, e_X8_countEnd_30, e_X8_countEnd_33, e_X8_countEnd_34, e_X8_countEnd_35, e_X8_countEnd_38, e_X8_countEnd_39, e_X8_countEnd_40, e_X8_countEnd_43, e_X8_countEnd_46, e_X8_countEnd_47, e_X8_countEnd_50, e_X8_countEnd_51, e_X8_countEnd_52, e_X8_countEnd_55, e_X8_countEnd_56, e_X8_countEnd_59, e_X8_countEnd_62, e_X8_countEnd_63, e_X8_countEnd_64, e_X8_countEnd_67, e_X8_countEnd_68, e_X8_countEnd_71, e_X8_countEnd_74, e_X8_countEnd_75, e_X8_countEnd_78, e_X8_countEnd_79, e_X8_countEnd_82, e_X8_countEnd_85, e_X8_countEnd_86, e_X8_countEnd_87, e_X8_countEnd_90, e_X8_countEnd_91, e_X8_countEnd_94, e_X8_countEnd_95, e_X8_countEnd_98, e_X8_countEnd_99, e_X8_countEnd_100, e_X8_countEnd_103, e_X8_countEnd_104, e_X8_countEnd_105, e_X8_countEnd_108, e_X8_countEnd_109, e_X8_countEnd_112, e_X8_countEnd_113, e_X8_countEnd_116, e_X8_countEnd_117, e_X8_countEnd_120, e_X8_countEnd_121, e_X8_countEnd_122, e_X8_countEnd_125, e_X8_countEnd_126, zpush_i, zpush_l, zpush_v, Option.bind_some, ↓if_pos, ↓if_neg, Int.reduceAdd, w32_id, h1, h2, zup_off]
    · by_cases g2 : w 67 32 < 0
      · rcases hs with rfl | rfl <;> rcases hf with rfl | rfl <;> simp (disch := first | assumption | omega | (simp only [zcat_0, zcat_i, zcat_l, zcat_r, zcat_t]; omega) | simp) only [e_X8_countEnd_0, e_X8_countEnd_1, e_X8_countEnd_4, e_X8_countEnd_5, e_X8_countEnd_6, e_X8_countEnd_9, e_X8_countEnd_10, e_X8_countEnd_11, e_X8_countEnd_12, e_X8_countEnd_15, e_X8_countEnd_16, e_X8_countEnd_17, e_X8_countEnd_20, e_X8_countEnd_21, e_X8_countEnd_22, e_X8_countEnd_25, e_X8_countEnd_26, e_X8_countEnd_29, e_X8_countEnd_30, e_X8_countEnd_33, e_X8_countEnd_34, e_X8_countEnd_35, e_X8_countEnd_38, e_X8_countEnd_39, e_X8_countEnd_40, e_X8_countEnd_43, e_X8_countEnd_46, e_X8_countEnd_47, e_X8_countEnd_50, e_X8_countEnd_51, e_X8_countEnd_52, e_X8_countEnd_55, e_X8_countEnd_56, e_X8_countEnd_59, e_X8_countEnd_62, e_X8_countEnd_63, e_X8_countEnd_64, e_X8_countEnd_67, e_X8_countEnd_68, e_X8_countEnd_71, e_X8_countEnd_74, e_X8_countEnd_75, e_X8_countEnd_78, e_X8_countEnd_79, e_X8_countEnd_82, e_X8_countEnd_85, e_X8_countEnd_86, e_X8_countEnd_87, e_X8_countEnd_90, e_X8_countEnd_91, e_X8_countEnd_94, e_X8_countEnd_95, e_X8_countEnd_98, e_X8_countEnd_99, e_X8_countEnd_100, e_X8_countEnd_103, e_X8_countEnd_104, e_X8_countEnd_105, e_X8_countEnd_108, e_X8_countEnd_109, e_X8_countEnd_112, e_X8_countEnd_113, e_X8_countEnd_116, e_X8_countEnd_117, e_X8_countEnd_120, e_X8_countEnd_121, e_X8_countEnd_122, e_X8_countEnd_125, e_X8_countEnd_126, zpush_i, zpush_l, zpush_v, Option.bind_some, ↓if_pos, ↓if_neg, Int.reduceAdd, w32_id, h1, h2, zup_off]
      · rcases hs with rfl | rfl <;> rcases hf with rfl | rfl <;> simp (disch := first | assumption | omega | (simp only [zcat_0, zcat_i, zcat_l, zcat_r, zcat_t]; omega) | simp) only [e_X8_countEnd_0, e_X8_countEnd_1, e_X8_countEnd_4, e_X8_countEnd_5, e_X8_countEnd_6, e_X8_countEnd_9, e_X8_countEnd_10, e_X8_countEnd_11, e_X8_countEnd_12, e_X8_countEnd_15, e_X8_countEnd_16, e_X8_countEnd_17, e_X8_countEnd_20, e_X8_countEnd_21, e_X8_countEnd_22, e_X8_countEnd_25, e_X8_countEnd_26, e_X8_countEnd_29, e_X8_countEnd_30, e_X8_countEnd_33, e_X8_countEnd_34, e_X8_countEnd_35, e_X8_countEnd_38, e_X8_countEnd_39, e_X8_countEnd_40, e_X8_countEnd_43, e_X8_countEnd_46, e_X8_countEnd_47, e_X8_countEnd_50, e_X8_countEnd_51, e_X8_countEnd_52, e_X8_countEnd_55, e_X8_countEnd_56, e_X8_countEnd_59, e_X8_countEnd_62, e_X8_countEnd_63, e_X8_countEnd_64, e_X8_countEnd_67, e_X8_countEnd_68, e_X8_countEnd_71, e_X8_countEnd_74, e_X8_countEnd_75, e_X8_countEnd_78, e_X8_countEnd_79, e_X8_countEnd_82, e_X8_countEnd_85, e_X8_countEnd_86, e_X8_countEnd_87, e_X8_countEnd_90, e_X8_countEnd_91, e_X8_countEnd_94, e_X8_countEnd_95, e_X8_countEnd_98, e_X8_countEnd_99, e_X8_countEnd_100, e_X8_countEnd_103, e_X8_countEnd_104, e_X8_countEnd_105, e_X8_countEnd_108, e_X8_countEnd_109, e_X8_countEnd_112, e_X8_countEnd_113, e_X8_countEnd_116, e_X8_countEnd_117, e_X8_countEnd_120, e_X8_countEnd_121, e_X8_countEnd_122, e_X8_countEnd_125, e_X8_countEnd_126, zpush_i, zpush_l, zpush_v, Option.bind_some, ↓if_pos, ↓if_neg, Int.reduceAdd, w32_id, h1, h2, zup_off]
  · rw [← e1]; simp (disch := omega) only [zup_off, zup_self]
  · rw [← e1]; simp (disch := omega) only [zup_off, zup_self]
  · rw [← e1]; simp (disch := omega) only [zup_off, zup_self]
  · rw [← e1]; simp (disch := omega) only [zup_off, zup_self]
  · rw [← e1]; simp (disch := omega) only [zup_off, zup_self]
  · rw [← e1]; simp (disch := omega) only [zup_off, zup_self]
  · rw [← e1]; simp (disch := omega) only [zup_off]
theorem m_ce_b {i s f : Int} (hR : RS w n S) (hp : 0 ≤ p ∧ p < 3) : Rn d 133 128 [(2, 67), (0, i), (0, s), (0, f), (0, p)] [] 92 w = Rn d 133 128 [(2, 67), (0, i), (0, s), (0, f), (0, p + 1)] [] 92 (zup w 86 p (z_or (w 86 p) (z_shl 1 (S.1 p)))) := by
  have zo67 := zo_67; have zo72 := zo_72; have zl72 := zl_72; have zo86 := zo_86; have zl86 := zl_86
  have c := hR.1 p (by omega) (by omega)
  have kz : 0 + p = p := by omega
  rw [e_X8_countEnd_128]
  simp (disch := first | assumption | omega | (simp only [zcat_0, zcat_i, zcat_l, zcat_r, zcat_t]; omega) | simp) only [e_X8_countEnd_130, e_X8_countEnd_131, e_X8_countEnd_134, e_X8_countEnd_135, e_X8_countEnd_138, e_X8_countEnd_140, e_X8_countEnd_141, e_X8_countEnd_142, e_X8_countEnd_143, e_X8_countEnd_144, e_X8_countEnd_147, e_X8_countEnd_148, e_X8_countEnd_150, e_X8_countEnd_151, e_X8_countEnd_152, e_X8_countEnd_153, e_X8_countEnd_154, e_X8_countEnd_155, e_X8_countEnd_158, zpush_i, zpush_l, zpush_v, Option.bind_some, ↓if_pos, ↓if_neg, Int.reduceAdd, w32_id, kz, c]
theorem m_ce_c {i f : Int} (hP : WP P) (hR : RS w (P 0 6) S) (hO : PO w P) (hx : w32 (w 67 35) = w 67 35) {t : Nat} (ht : (t : Int) < P 0 6) : Rn d 133 164 [(2, 67), (0, i), (0, 1), (0, f), (0, (t : Int))] [] 92 w = Rn d 133 164 [(2, 67), (0, i), (0, 1), (0, f), (0, (t : Int) + 1)] [] 92 (zup w 67 35 (z_or (w 67 35) (sB S t))) := by
  have zo67 := zo_67; have zo72 := zo_72; have zl72 := zl_72
  have hP4 := hP.2.1
  have e1 := hO.1
  have hh := (hR.2.1 t (by omega) (by omega)).1
  rw [if_pos ht] at hh
  rw [e_X8_countEnd_164]
  unfold sB
  by_cases h : S.1 (13 + (t : Int)) = 7
  · rw [if_pos h]
    rw [h] at hh
    simp (disch := first | assumption | omega | (simp only [zcat_0, zcat_i, zcat_l, zcat_r, zcat_t]; omega) | simp) only [e_X8_countEnd_166, e_X8_countEnd_167, e_X8_countEnd_170, e_X8_countEnd_173, e_X8_countEnd_174, e_X8_countEnd_177, e_X8_countEnd_178, e_X8_countEnd_179, e_X8_countEnd_182, e_X8_countEnd_183, e_X8_countEnd_186, e_X8_countEnd_188, e_X8_countEnd_190, e_X8_countEnd_191, e_X8_countEnd_192, e_X8_countEnd_194, e_X8_countEnd_197, e_X8_countEnd_198, e_X8_countEnd_201, e_X8_countEnd_202, e_X8_countEnd_204, e_X8_countEnd_205, e_X8_countEnd_206, e_X8_countEnd_209, e_X8_countEnd_212, zpush_i, zpush_l, zpush_v, Option.bind_some, ↓if_pos, ↓if_neg, Int.reduceAdd, w32_id, e1, hh]
  · rw [if_neg h]
    simp (disch := first | assumption | omega | (simp only [zcat_0, zcat_i, zcat_l, zcat_r, zcat_t]; omega) | simp) only [e_X8_countEnd_166, e_X8_countEnd_167, e_X8_countEnd_170, e_X8_countEnd_173, e_X8_countEnd_174, e_X8_countEnd_177, e_X8_countEnd_178, e_X8_countEnd_179, e_X8_countEnd_182, e_X8_countEnd_183, e_X8_countEnd_186, e_X8_countEnd_188, e_X8_countEnd_190, e_X8_countEnd_191, e_X8_countEnd_192, e_X8_countEnd_194, e_X8_countEnd_197, e_X8_countEnd_198, e_X8_countEnd_201, e_X8_countEnd_202, e_X8_countEnd_204, e_X8_countEnd_205, e_X8_countEnd_206, e_X8_countEnd_209, e_X8_countEnd_212, zpush_i, zpush_l, zpush_v, Option.bind_some, ↓if_pos, ↓if_neg, Int.reduceAdd, w32_id, e1, hh]
/-- sleepers, thread by thread -/
def sBs (S : Sc) (x : Int) : Nat → Int
  | 0 => x
  | t + 1 => z_or (sBs S x t) (sB S t)
theorem sBs_w {x : Int} (hx : w32 x = x) : ∀ t : Nat, w32 (sBs S x t) = sBs S x t
  | 0 => hx
  | _ + 1 => z_or_w _ _
theorem sBs_n (hP : WP P) (hW : WS0 P S) {x : Int} (hx : w32 x = x) : ∀ t : Nat, t ≤ 4 → P 0 6 ≤ t → sBs S x t = sBs S x (P 0 6).toNat
  | 0, _, h => by rw [show (P 0 6).toNat = 0 by omega]
  | t + 1, h4, h => by
    by_cases e : P 0 6 = t + 1
    · rw [e]; rfl
    · rw [← sBs_n hP hW hx t (by omega) (by omega), sBs]
      have := how7 (t := (t : Int)) hW hP (by omega) (by omega) (by omega)
      have e0 : sB S t = 0 := if_pos this
      rw [e0, z_or0 (sBs_w hx t)]
theorem m_ce_s {i f x : Int} (hP : WP P) (hW : WS0 P S) (hx : w32 x = x) : ∀ (u t : Nat) (w : zW), (t : Int) + u = P 0 6 → RS w (P 0 6) S → PO w P → w 67 35 = sBs S x t → ∃ w', Rn d 133 164 [(2, 67), (0, i), (0, 1), (0, f), (0, (t : Int))] [] 92 w = some ((9, 0), 92, w') ∧ w' 67 35 = sBs S x 4 ∧ (∀ b j, b ≠ 67 ∨ j ≠ 35 → w' b j = w b j) := by
  have zo67 := zo_67
  have hP4 := hP.2.1
  intro u
  induction u with
  | zero =>
    intro t w ht hR hO h35
    have e1 := hO.1
    refine ⟨w, ?_, ?_, fun _ _ _ => rfl⟩
    · rw [show (t : Int) = P 0 6 by omega]
      simp (disch := first | assumption | omega | (simp only [zcat_0, zcat_i, zcat_l, zcat_r, zcat_t]; omega) | simp) only [e_X8_countEnd_164, e_X8_countEnd_166, e_X8_countEnd_167, e_X8_countEnd_170, e_X8_countEnd_215, zpush_i, zpush_l, zpush_v, Option.bind_some, ↓if_pos, ↓if_neg, Int.reduceAdd, w32_id, e1]
    · rw [h35, sBs_n hP hW hx 4 (by omega) (by omega), show (P 0 6).toNat = t by omega]
  | succ u ih =>
    intro t w ht hR hO h35
    have s := m_ce_c (d := d) (i := i) (f := f) hP hR hO (by rw [h35]; exact sBs_w hx t) (t := t) (by omega)
    have F : FC w (zup w 67 35 (z_or (w 67 35) (sB S t))) := fun b j h1 h2 h3 => zup_off _ (by omega)
    obtain ⟨w', g1, g2, g3⟩ := ih (t + 1) _ (by omega) (F.rs hR) (F.po hO) (by rw [zup_self, h35]; rfl)
    refine ⟨w', ?_, g2, fun b j h => by rw [g3 b j h, zup_off _ h]⟩
    rw [s, ← g1, show ((t + 1 : Nat) : Int) = (t : Int) + 1 by omega]
end T2
