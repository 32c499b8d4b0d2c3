/-! LENT RANKS: after three rounds a fourth changes nothing -/
def bL (o t b : Nat) : Nat := b ||| (((b >>> t) &&& 1) <<< o)
def bR (o0 o1 o2 o3 b : Nat) : Nat := bL o3 3 (bL o2 2 (bL o1 1 (bL o0 0 b)))
def bOk : Bool := (List.range 5).all fun o0 => (List.range 5).all fun o1 => (List.range 5).all fun o2 => (List.range 5).all fun o3 => (List.range 16).all fun b =>
  (bR o0 o1 o2 o3 (bR o0 o1 o2 o3 (bR o0 o1 o2 o3 (bR o0 o1 o2 o3 b)))) % 16 == (bR o0 o1 o2 o3 (bR o0 o1 o2 o3 (bR o0 o1 o2 o3 b))) % 16
theorem bOk_t : bOk = true := by decide +kernel
theorem bL_bit (o t b j : Nat) : (bL o t b).testBit j = (b.testBit j || (decide (j = o) && b.testBit t)) := by
  unfold bL
  rw [Nat.testBit_or, Nat.testBit_shiftLeft, Nat.testBit_and, Nat.testBit_shiftRight]
  by_cases e : j = o
  · subst e
    simp
  · by_cases h : o ≤ j
    · have : Nat.testBit 1 (j - o) = false := by
        cases hb : Nat.testBit 1 (j - o) with
        | false => rfl
        | true =>
          have := Nat.testBit_one_eq_true_iff_self_eq_zero.mp hb
          omega
      simp [this, e]
    · simp [h, e]
section M4
variable {d : Nat} {w : zW} {t p q n c : Int} {S : Sc} {P : Pg} {l l' : Int → Int}
theorem sL1_aw (hP : WP P) (hW : WS0 P S) (h0 : 0 ≤ t) (h4 : t < 4) : sL1 S l t = if sAw S t = 4 then l else su l (sAw S t) (max (l (sAw S t)) (l t)) := by
  unfold sL1 sAw
  by_cases h : 4 ≤ S.1 (13 + t) ∧ S.1 (13 + t) ≤ 6 ∧ S.1 (S.1 (13 + t) - 1) ≠ 0
  · obtain ⟨p1, p2, p3, p4, -⟩ := hW.1 (S.1 (13 + t) - 4) (by omega) (by omega)
    rw [show 3 + (S.1 (13 + t) - 4) = S.1 (13 + t) - 1 by omega] at p3 p4
    have := hP.2.1
    simp only [if_pos h]
    rw [if_neg (by omega)]
  · simp only [if_neg h, if_true]
/-- which of the four are at least c -/
def TH (c : Int) (l : Int → Int) (b : Nat) : Prop := ∀ j : Nat, j < 4 → b.testBit j = decide (c ≤ l j)
theorem TH.one {b i : Nat} (hP : WP P) (hW : WS0 P S) (hi : i < 4) (h : TH c l b) : TH c (sL1 S l i) (bL (sAw S i).toNat i b) := by
  intro j hj
  have ha := sAw_in (t := (i : Int)) hP hW (by omega) (by omega)
  rw [bL_bit, sL1_aw hP hW (by omega) (by omega), h j hj, h i hi]
  by_cases e4 : sAw S i = 4
  · rw [if_pos e4, e4, decide_eq_false (show ¬ j = (4 : Int).toNat by omega)]
    simp
  · rw [if_neg e4]
    by_cases ej : (j : Int) = sAw S i
    · rw [← ej, su_self, decide_eq_true (show j = (j : Int).toNat by omega)]
      by_cases c1 : c ≤ l j
      · rw [decide_eq_true c1, decide_eq_true (show c ≤ max (l j) (l i) by omega)]
        rfl
      · rw [decide_eq_false c1]
        by_cases c2 : c ≤ l i
        · rw [decide_eq_true c2, decide_eq_true (show c ≤ max (l j) (l i) by omega)]
          rfl
        · rw [decide_eq_false c2, decide_eq_false (show ¬ c ≤ max (l j) (l i) by omega)]
          rfl
    · rw [su_ne _ ej, decide_eq_false (show ¬ j = (sAw S i).toNat by omega)]
      simp
theorem TH.four {b : Nat} (hP : WP P) (hW : WS0 P S) (h : TH c l b) : TH c (sL4 S l) (bR (sAw S 0).toNat (sAw S 1).toNat (sAw S 2).toNat (sAw S 3).toNat b) :=
  (((h.one (i := 0) hP hW (by omega)).one (i := 1) hP hW (by omega)).one (i := 2) hP hW (by omega)).one (i := 3) hP hW (by omega)
theorem TH.ex (c : Int) (l : Int → Int) : ∃ b, b < 16 ∧ TH c l b := by
  refine ⟨(if c ≤ l 0 then 1 else 0) + (if c ≤ l 1 then 2 else 0) + (if c ≤ l 2 then 4 else 0) + (if c ≤ l 3 then 8 else 0), ?_, ?_⟩
  · split <;> split <;> split <;> split <;> omega
  · intro j hj
    have : j = 0 ∨ j = 1 ∨ j = 2 ∨ j = 3 := by omega
    by_cases h0 : c ≤ l 0 <;> by_cases h1 : c ≤ l 1 <;> by_cases h2 : c ≤ l 2 <;> by_cases h3 : c ≤ l 3 <;> rcases this with rfl | rfl | rfl | rfl <;> simp [h0, h1, h2, h3] <;> rfl
theorem bit_mod (b j : Nat) (h : j < 4) : (b % 16).testBit j = b.testBit j := by
  rw [show 16 = 2 ^ 4 by rfl, Nat.testBit_mod_two_pow, decide_eq_true h]
  simp
theorem sL4_fix (hP : WP P) (hW : WS0 P S) (h0 : 0 ≤ t) (h4 : t < 4) : sL4 S (sLd P S) t = sLd P S t := by
  have key : ∀ c : Int, c ≤ sL4 S (sLd P S) t ↔ c ≤ sLd P S t := by
    intro c
    obtain ⟨b, hb, hT⟩ := TH.ex c (P 2)
    have T3 := ((hT.four hP hW).four hP hW).four hP hW
    have T4 := T3.four hP hW
    have a0 := sAw_in (t := 0) hP hW (by omega) (by omega)
    have a1 := sAw_in (t := 1) hP hW (by omega) (by omega)
    have a2 := sAw_in (t := 2) hP hW (by omega) (by omega)
    have a3 := sAw_in (t := 3) hP hW (by omega) (by omega)
    have ok := bOk_t
    unfold bOk at ok
    simp only [List.all_eq_true, List.mem_range, beq_iff_eq] at ok
    have ok' := ok (sAw S 0).toNat (by omega) (sAw S 1).toNat (by omega) (sAw S 2).toNat (by omega) (sAw S 3).toNat (by omega) b hb
    have e3 := T3 t.toNat (by omega)
    have e4 := T4 t.toNat (by omega)
    rw [← bit_mod _ _ (by omega)] at e3 e4
    rw [ok', e3, show ((t.toNat : Nat) : Int) = t by omega] at e4
    exact ((decide_eq_decide).mp e4).symm
  have h1 := (key (sL4 S (sLd P S) t)).mp (by omega)
  have h2 := (key (sLd P S t)).mpr (by omega)
  omega
def LR (w : zW) (n : Int) (l : Int → Int) : Prop := ∀ t, 0 ≤ t → t < n → w 73 t = l t
theorem m_lay_a (hO : PO w P) (hP : WP P) : ∀ (m i : Nat) (w' : zW), (i : Int) + m = P 0 6 → (∀ a, a ≠ 73 → w' a = w a) → LR w' i (P 2) → ∃ w'', Rn d 104 2 [(2, 67), (0, (i : Int)), (9, 0), (9, 0), (9, 0)] [] 92 w' = Rn d 104 28 [(2, 67), (0, P 0 6), (9, 0), (9, 0), (9, 0)] [] 92 w'' ∧ (∀ a, a ≠ 73 → w'' a = w a) ∧ LR w'' (P 0 6) (P 2) := by
  have zo67 := zo_67; have zo69 := zo_69; have zl69 := zl_69; have zo73 := zo_73; have zl73 := zl_73
  have hP4 := hP.2.1
  intro m
  induction m with
  | zero =>
    intro i w' hi hw hl
    have e1 : w' 67 1 = P 0 6 := by rw [hw 67 (by omega)]; exact hO.1
    have ei : (i : Int) = P 0 6 := by omega
    refine ⟨w', ?_, hw, by rw [← ei]; exact hl⟩
    rw [ei]
    simp (disch := first | assumption | omega | (simp only [zcat_0, zcat_i, zcat_l, zcat_r, zcat_t]; omega) | simp) only [e_X8_layRanks_2, e_X8_layRanks_3, e_X8_layRanks_4, e_X8_layRanks_7, zpush_i, zpush_l, zpush_v, Option.bind_some, ↓if_pos, ↓if_neg, Int.reduceAdd, w32_id, e1]
  | succ m ih =>
    intro i w' hi hw hl
    have e1 : w' 67 1 = P 0 6 := by rw [hw 67 (by omega)]; exact hO.1
    have e2 : w' 69 i = P 2 i := by rw [hw 69 (by omega)]; exact (hO.2.2 i (by omega) (by omega)).1
    obtain ⟨w2, g1, g2, g3⟩ := ih (i + 1) (zup w' 73 i (P 2 i)) (by omega) (fun a ha => by rw [zup_ne ha]; exact hw a ha) (fun t h0 h1 => by
      by_cases e : t = i
      · subst e; rw [zup_self]
      · rw [zup_off _ (Or.inr e)]; exact hl t h0 (by omega))
    refine ⟨w2, ?_, g2, g3⟩
    rw [← g1, e_X8_layRanks_2, show ((i + 1 : Nat) : Int) = (i : Int) + 1 by omega]
    simp (disch := first | assumption | omega | (simp only [zcat_0, zcat_i, zcat_l, zcat_r, zcat_t]; omega) | simp) only [e_X8_layRanks_3, e_X8_layRanks_4, e_X8_layRanks_7, e_X8_layRanks_10, e_X8_layRanks_11, e_X8_layRanks_14, e_X8_layRanks_15, e_X8_layRanks_16, e_X8_layRanks_19, e_X8_layRanks_20, e_X8_layRanks_21, e_X8_layRanks_22, e_X8_layRanks_25, zpush_i, zpush_l, zpush_v, Option.bind_some, ↓if_pos, ↓if_neg, Int.reduceAdd, w32_id, e1, e2]
theorem m_lay_b {r : Int} (hP : WP P) (hW : WS0 P S) (hR : RS w (P 0 6) S) (hO : PO w P) {i : Nat} (hi : (i : Int) < P 0 6) {v u : zV} (hl : LR w (P 0 6) l) : ∃ w' v' u', Rn (d + 1) 104 37 [(2, 67), (0, r), (0, (i : Int)), v, u] [] 92 w = Rn (d + 1) 104 37 [(2, 67), (0, r), (0, (i : Int) + 1), (0, v'), (0, u')] [] 92 w' ∧ LR w' (P 0 6) (sL1 S l i) ∧ (∀ a, a ≠ 73 → w' a = w a) := by
  have zo67 := zo_67; have zo72 := zo_72; have zl72 := zl_72; have zo73 := zo_73; have zl73 := zl_73
  have hP4 := hP.2.1
  have e1 := hO.1
  have hh := (hR.2.1 i (by omega) (by omega)).1
  rw [if_pos hi] at hh
  obtain ⟨f1, f2, f3, f4, f5, f6⟩ := hW.2.1 i (by omega) (by omega)
  rw [sL1_aw hP hW (by omega) (by omega)]
  by_cases hx : 4 ≤ S.1 (13 + (i : Int)) ∧ S.1 (13 + (i : Int)) ≤ 6
  · obtain ⟨p1, p2, p3, p4, -⟩ := hW.1 (S.1 (13 + (i : Int)) - 4) (by omega) (by omega)
    rw [show 3 + (S.1 (13 + (i : Int)) - 4) = S.1 (13 + (i : Int)) - 1 by omega] at p3 p4
    have e3 := hR.1 (S.1 (13 + (i : Int)) - 1) (by omega) (by omega)
    have hin : Cl d 95 [(1, S.1 (13 + (i : Int))), (1, 4), (1, 6)] 92 w = some ((0, 1), 92, w) := by rw [m_in, if_pos hx]
    have es : 3 + (S.1 (13 + (i : Int)) - 4) = S.1 (13 + (i : Int)) - 1 := by omega
    have ea : sAw S i = if S.1 (S.1 (13 + (i : Int)) - 1) = 0 then 4 else S.1 (S.1 (13 + (i : Int)) - 1) - 1 := by
      unfold sAw
      by_cases e0 : S.1 (S.1 (13 + (i : Int)) - 1) = 0
      · rw [if_neg (fun z => z.2.2 e0), if_pos e0]
      · rw [if_pos ⟨hx.1, hx.2, e0⟩, if_neg e0]
    by_cases e0 : S.1 (S.1 (13 + (i : Int)) - 1) = 0
    · rw [if_pos e0] at ea
      rw [if_pos ea]
      refine ⟨w, S.1 (13 + (i : Int)) - 4, 0, ?_, hl, fun _ _ => rfl⟩
      rw [e0] at e3
      rw [e_X8_layRanks_37]
      simp (disch := first | assumption | omega | (simp only [zcat_0, zcat_i, zcat_l, zcat_r, zcat_t]; omega) | simp) only [e_X8_layRanks_38, e_X8_layRanks_39, e_X8_layRanks_42, e_X8_layRanks_45, e_X8_layRanks_46, e_X8_layRanks_49, e_X8_layRanks_51, e_X8_layRanks_52, e_X8_layRanks_53, e_X8_layRanks_54, e_X8_layRanks_55, e_X8_layRanks_58, e_X8_layRanks_61, e_X8_layRanks_64, e_X8_layRanks_67, e_X8_layRanks_68, e_X8_layRanks_71, e_X8_layRanks_73, e_X8_layRanks_74, e_X8_layRanks_75, e_X8_layRanks_76, e_X8_layRanks_77, e_X8_layRanks_78, e_X8_layRanks_81, e_X8_layRanks_83, e_X8_layRanks_84, e_X8_layRanks_85, e_X8_layRanks_88, e_X8_layRanks_89, e_X8_layRanks_92, e_X8_layRanks_93, e_X8_layRanks_96, e_X8_layRanks_97, e_X8_layRanks_98, e_X8_layRanks_99, e_X8_layRanks_100, e_X8_layRanks_102, e_X8_layRanks_104, e_X8_layRanks_107, e_X8_layRanks_108, e_X8_layRanks_111, e_X8_layRanks_112, e_X8_layRanks_113, e_X8_layRanks_114, e_X8_layRanks_117, e_X8_layRanks_119, e_X8_layRanks_120, e_X8_layRanks_121, e_X8_layRanks_122, e_X8_layRanks_125, e_X8_layRanks_126, e_X8_layRanks_129, e_X8_layRanks_131, e_X8_layRanks_132, e_X8_layRanks_133, e_X8_layRanks_134, e_X8_layRanks_137, e_X8_layRanks_138, e_X8_layRanks_139, e_X8_layRanks_140, e_X8_layRanks_143, zpush_i, zpush_l, zpush_v, Option.bind_some, ↓if_pos, ↓if_neg, Int.reduceAdd, w32_id, e1, hh, hin, es, e3]
    · rw [if_neg e0] at ea
      rw [if_neg (by omega), ea]
      have l1 := hl i (by omega) hi
      have l2 := hl (S.1 (S.1 (13 + (i : Int)) - 1) - 1) (by omega) (by omega)
      by_cases hc : l i ≤ l (S.1 (S.1 (13 + (i : Int)) - 1) - 1)
      · refine ⟨w, S.1 (13 + (i : Int)) - 4, S.1 (S.1 (13 + (i : Int)) - 1), ?_, ?_, fun _ _ => rfl⟩
        · rw [e_X8_layRanks_37]
          simp (disch := first | assumption | omega | (simp only [zcat_0, zcat_i, zcat_l, zcat_r, zcat_t]; omega) | simp) only [e_X8_layRanks_38, e_X8_layRanks_39, e_X8_layRanks_42, e_X8_layRanks_45, e_X8_layRanks_46, e_X8_layRanks_49, e_X8_layRanks_51, e_X8_layRanks_52, e_X8_layRanks_53, e_X8_layRanks_54, e_X8_layRanks_55, e_X8_layRanks_58, e_X8_layRanks_61, e_X8_layRanks_64, e_X8_layRanks_67, e_X8_layRanks_68, e_X8_layRanks_71, e_X8_layRanks_73, e_X8_layRanks_74, e_X8_layRanks_75, e_X8_layRanks_76, e_X8_layRanks_77, e_X8_layRanks_78, e_X8_layRanks_81, e_X8_layRanks_83, e_X8_layRanks_84, e_X8_layRanks_85, e_X8_layRanks_88, e_X8_layRanks_89, e_X8_layRanks_92, e_X8_layRanks_93, e_X8_layRanks_96, e_X8_layRanks_97, e_X8_layRanks_98, e_X8_layRanks_99, e_X8_layRanks_100, e_X8_layRanks_102, e_X8_layRanks_104, e_X8_layRanks_107, e_X8_layRanks_108, e_X8_layRanks_111, e_X8_layRanks_112, e_X8_layRanks_113, e_X8_layRanks_114, e_X8_layRanks_117, e_X8_layRanks_119, e_X8_layRanks_120, e_X8_layRanks_121, e_X8_layRanks_122, e_X8_layRanks_125, e_X8_layRanks_126, e_X8_layRanks_129, e_X8_layRanks_131, e_X8_layRanks_132, e_X8_layRanks_133, e_X8_layRanks_134, e_X8_layRanks_137, e_X8_layRanks_138, e_X8_layRanks_139, e_X8_layRanks_140, e_X8_layRanks_143, zpush_i, zpush_l, zpush_v, Option.bind_some, ↓if_pos, ↓if_neg, Int.reduceAdd, w32_id, e1, hh, hin, es, e3, l1, l2]
        · intro t h0 h1
          by_cases e : t = S.1 (S.1 (13 + (i : Int)) - 1) - 1
          · subst e; rw [su_self, l2]; omega
          · rw [su_ne _ e]; exact hl t h0 h1
      · refine ⟨zup w 73 (S.1 (S.1 (13 + (i : Int)) - 1) - 1) (l i), S.1 (13 + (i : Int)) - 4, S.1 (S.1 (13 + (i : Int)) - 1), ?_, ?_, fun a ha => zup_ne ha⟩
        · rw [e_X8_layRanks_37]
          simp (disch := first | assumption | omega | (simp only [zcat_0, zcat_i, zcat_l, zcat_r, zcat_t]; omega) | simp) only [e_X8_layRanks_38, e_X8_layRanks_39, e_X8_layRanks_42, e_X8_layRanks_45, e_X8_layRanks_46, e_X8_layRanks_49, e_X8_layRanks_51, e_X8_layRanks_52, e_X8_layRanks_53, e_X8_layRanks_54, e_X8_layRanks_55, e_X8_layRanks_58, e_X8_layRanks_61, e_X8_layRanks_64, e_X8_layRanks_67, e_X8_layRanks_68, e_X8_layRanks_71, e_X8_layRanks_73, e_X8_layRanks_74, e_X8_layRanks_75, e_X8_layRanks_76, e_X8_layRanks_77, e_X8_layRanks_78, e_X8_layRanks_81, e_X8_layRanks_83, e_X8_layRanks_84, e_X8_layRanks_85, e_X8_layRanks_88, e_X8_layRanks_89, e_X8_layRanks_92, e_X8_layRanks_93, e_X8_layRanks_96, e_X8_layRanks_97, e_X8_layRanks_98, e_X8_layRanks_99, e_X8_layRanks_100, e_X8_layRanks_102, e_X8_layRanks_104, e_X8_layRanks_107, e_X8_layRanks_108, e_X8_layRanks_111, e_X8_layRanks_112, e_X8_layRanks_113, e_X8_layRanks_114, e_X8_layRanks_117, e_X8_layRanks_119, e_X8_layRanks_120, e_X8_layRanks_121, e_X8_layRanks_122, e_X8_layRanks_125, e_X8_layRanks_126, e_X8_layRanks_129, e_X8_layRanks_131, e_X8_layRanks_132, e_X8_layRanks_133, e_X8_layRanks_134, e_X8_layRanks_137, e_X8_layRanks_138, e_X8_layRanks_139, e_X8_layRanks_140, e_X8_layRanks_143, zpush_i, zpush_l, zpush_v, Option.bind_some, ↓if_pos, ↓if_neg, Int.reduceAdd, w32_id, e1, hh, hin, es, e3, l1, l2]
        · intro t h0 h1
          by_cases e : t = S.1 (S.1 (13 + (i : Int)) - 1) - 1
          · subst e; rw [su_self, zup_self]; omega
          · rw [su_ne _ e, zup_off _ (Or.inr e)]; exact hl t h0 h1
  · have hin : Cl d 95 [(1, S.1 (13 + (i : Int))), (1, 4), (1, 6)] 92 w = some ((0, 0), 92, w) := by rw [m_in, if_neg hx]
    have ea : sAw S i = 4 := by
      unfold sAw
      rw [if_neg (fun z => hx ⟨z.1, z.2.1⟩)]
    rw [if_pos ea]
    refine ⟨w, -9, 0, ?_, hl, fun _ _ => rfl⟩
    rw [e_X8_layRanks_37]
    simp (disch := first | assumption | omega | (simp only [zcat_0, zcat_i, zcat_l, zcat_r, zcat_t]; omega) | simp) only [e_X8_layRanks_38, e_X8_layRanks_39, e_X8_layRanks_42, e_X8_layRanks_45, e_X8_layRanks_46, e_X8_layRanks_49, e_X8_layRanks_51, e_X8_layRanks_52, e_X8_layRanks_53, e_X8_layRanks_54, e_X8_layRanks_55, e_X8_layRanks_58, e_X8_layRanks_61, e_X8_layRanks_64, e_X8_layRanks_67, e_X8_layRanks_68, e_X8_layRanks_71, e_X8_layRanks_73, e_X8_layRanks_74, e_X8_layRanks_75, e_X8_layRanks_76, e_X8_layRanks_77, e_X8_layRanks_78, e_X8_layRanks_81, e_X8_layRanks_83, e_X8_layRanks_84, e_X8_layRanks_85, e_X8_layRanks_88, e_X8_layRanks_89, e_X8_layRanks_92, e_X8_layRanks_93, e_X8_layRanks_96, e_X8_layRanks_97, e_X8_layRanks_98, e_X8_layRanks_99, e_X8_layRanks_100, e_X8_layRanks_102, e_X8_layRanks_104, e_X8_layRanks_107, e_X8_layRanks_108, e_X8_layRanks_111, e_X8_layRanks_112, e_X8_layRanks_113, e_X8_layRanks_114, e_X8_layRanks_117, e_X8_layRanks_119, e_X8_layRanks_120, e_X8_layRanks_121, e_X8_layRanks_122, e_X8_layRanks_125, e_X8_layRanks_126, e_X8_layRanks_129, e_X8_layRanks_131, e_X8_layRanks_132, e_X8_layRanks_133, e_X8_layRanks_134, e_X8_layRanks_137, e_X8_layRanks_138, e_X8_layRanks_139, e_X8_layRanks_140, e_X8_layRanks_143, zpush_i, zpush_l, zpush_v, Option.bind_some, ↓if_pos, ↓if_neg, Int.reduceAdd, w32_id, e1, hh, hin]
def sLf (S : Sc) (l : Int → Int) : Nat → Int → Int
  | 0 => l
  | m + 1 => sL1 S (sLf S l m) m
theorem sLf_n (hP : WP P) (hW : WS0 P S) : ∀ (m : Nat), m ≤ 4 → P 0 6 ≤ m → sLf S l m = sLf S l (P 0 6).toNat
  | 0, _, h => by rw [show (P 0 6).toNat = 0 by omega]
  | m + 1, h4, h => by
    by_cases e : P 0 6 = m + 1
    · rw [e]; rfl
    · rw [← sLf_n hP hW m (by omega) (by omega), sLf]
      have := how7 (t := (m : Int)) hW hP (by omega) (by omega) (by omega)
      unfold sL1
      rw [if_neg (by omega)]
theorem m_lay_r {r : Int} (hr : 0 ≤ r ∧ r < 4) (hP : WP P) (hW : WS0 P S) (hR : RS w (P 0 6) S) (hO : PO w P) {v : zV} : ∀ (m i : Nat) (w' : zW) (v3 v4 : zV), (i : Int) + m = P 0 6 → (∀ a, a ≠ 73 → w' a = w a) → LR w' (P 0 6) (sLf S l i) → ∃ w'' v' u', Rn (d + 1) 104 37 [(2, 67), (0, r), (0, (i : Int)), v3, v4] [] 92 w' = Rn (d + 1) 104 30 [(2, 67), (0, r + 1), (0, P 0 6), v', u'] [] 92 w'' ∧ (∀ a, a ≠ 73 → w'' a = w a) ∧ LR w'' (P 0 6) (sL4 S l) := by
  have zo67 := zo_67
  have hP4 := hP.2.1
  intro m
  induction m with
  | zero =>
    intro i w' v3 v4 hi hw hl
    have e1 : w' 67 1 = P 0 6 := by rw [hw 67 (by omega)]; exact hO.1
    have ei : (i : Int) = P 0 6 := by omega
    refine ⟨w', v3, v4, ?_, hw, ?_⟩
    · rw [ei]
      simp (disch := first | assumption | omega | (simp only [zcat_0, zcat_i, zcat_l, zcat_r, zcat_t]; omega) | simp) only [e_X8_layRanks_37, e_X8_layRanks_38, e_X8_layRanks_39, e_X8_layRanks_42, e_X8_layRanks_146, e_X8_layRanks_149, zpush_i, zpush_l, zpush_v, Option.bind_some, ↓if_pos, ↓if_neg, Int.reduceAdd, w32_id, e1]
    · have : sL4 S l = sLf S l i := by
        rw [show i = (P 0 6).toNat by omega, ← sLf_n hP hW 4 (by omega) (by omega)]
        rfl
      rw [this]
      exact hl
  | succ m ih =>
    intro i w' v3 v4 hi hw hl
    have R1 : RS w' (P 0 6) S := by
      unfold RS
      rw [hw 72 (by omega)]
      exact hR
    have O1 : PO w' P := by
      unfold PO
      rw [hw 67 (by omega), hw 68 (by omega), hw 69 (by omega), hw 70 (by omega), hw 71 (by omega)]
      exact hO
    obtain ⟨w1, v', u', q1, q2, q3⟩ := m_lay_b (d := d) (r := r) (v := v3) (u := v4) hP hW R1 O1 (i := i) (by omega) hl
    obtain ⟨w2, v2, u2, g1, g2, g3⟩ := ih (i + 1) w1 (0, v') (0, u') (by omega) (fun a ha => by rw [q3 a ha]; exact hw a ha) q2
    refine ⟨w2, v2, u2, ?_, g2, g3⟩
    rw [q1, ← g1, show ((i + 1 : Nat) : Int) = (i : Int) + 1 by omega]
theorem m_lay_1 {r : Int} (hr : 0 ≤ r ∧ r < 4) (hP : WP P) (hW : WS0 P S) (hR : RS w (P 0 6) S) (hO : PO w P) {w' : zW} {v2 v3 v4 : zV} (hw : ∀ a, a ≠ 73 → w' a = w a) (hl : LR w' (P 0 6) l) : ∃ w'' v' u', Rn (d + 1) 104 30 [(2, 67), (0, r), v2, v3, v4] [] 92 w' = Rn (d + 1) 104 30 [(2, 67), (0, r + 1), (0, P 0 6), v', u'] [] 92 w'' ∧ (∀ a, a ≠ 73 → w'' a = w a) ∧ LR w'' (P 0 6) (sL4 S l) := by
  have hP1 := hP.1
  obtain ⟨w1, v', u', q1, q2, q3⟩ := m_lay_r (d := d) (l := l) (v := v2) hr hP hW hR hO (P 0 6).toNat 0 w' v3 v4 (by omega) hw hl
  refine ⟨w1, v', u', ?_, q2, q3⟩
  rw [← q1, e_X8_layRanks_30]
  simp (disch := first | assumption | omega | (simp only [zcat_0, zcat_i, zcat_l, zcat_r, zcat_t]; omega) | simp) only [e_X8_layRanks_31, e_X8_layRanks_32, e_X8_layRanks_35, e_X8_layRanks_36, zpush_i, zpush_l, zpush_v, Option.bind_some, ↓if_pos, ↓if_neg, Int.reduceAdd, w32_id]
  rfl
theorem m_lay (hP : WP P) (hW : WS0 P S) (hR : RS w (P 0 6) S) (hO : PO w P) : ∃ w', Cl (d + 1) 104 [(2, 67)] 92 w = some ((9, 0), 92, w') ∧ LR w' (P 0 6) (sLd P S) ∧ (∀ a, a ≠ 73 → w' a = w a) := by
  have hP1 := hP.1
  have hP4 := hP.2.1
  obtain ⟨w0, q0, r0, s0⟩ := m_lay_a (d := d + 1) hO hP (P 0 6).toNat 0 w (by omega) (fun _ _ => rfl) (fun t h0 h1 => by omega)
  obtain ⟨w1, x1, y1, q1, r1, s1⟩ := m_lay_1 (d := d) (r := 0) (v2 := (9, 0)) (v3 := (9, 0)) (v4 := (9, 0)) (by omega) hP hW hR hO r0 s0
  obtain ⟨w2, x2, y2, q2, r2, s2⟩ := m_lay_1 (d := d) (r := 1) (v2 := (0, P 0 6)) (v3 := x1) (v4 := y1) (by omega) hP hW hR hO r1 s1
  obtain ⟨w3, x3, y3, q3, r3, s3⟩ := m_lay_1 (d := d) (r := 2) (v2 := (0, P 0 6)) (v3 := x2) (v4 := y2) (by omega) hP hW hR hO r2 s2
  obtain ⟨w4, x4, y4, q4, r4, s4⟩ := m_lay_1 (d := d) (r := 3) (v2 := (0, P 0 6)) (v3 := x3) (v4 := y3) (by omega) hP hW hR hO r3 s3
  refine ⟨w4, ?_, ?_, r4⟩
  · show Rn (d + 1) 104 0 [(2, 67), (9, 0), (9, 0), (9, 0), (9, 0)] [] 92 w = _
    have q0' : Rn (d + 1) 104 2 [(2, 67), (0, 0), (9, 0), (9, 0), (9, 0)] [] 92 w = _ := q0
    simp only [Int.reduceAdd] at q1 q2 q3 q4
    simp (disch := first | assumption | omega | (simp only [zcat_0, zcat_i, zcat_l, zcat_r, zcat_t]; omega) | simp) only [e_X8_layRanks_0, e_X8_layRanks_1, zpush_i, zpush_l, zpush_v, Option.bind_some, ↓if_pos, ↓if_neg, Int.reduceAdd, w32_id, q0']
    simp (disch := first | assumption | omega | (simp only [zcat_0, zcat_i, zcat_l, zcat_r, zcat_t]; omega) | simp) only [e_X8_layRanks_28, e_X8_layRanks_29, zpush_i, zpush_l, zpush_v, Option.bind_some, ↓if_pos, ↓if_neg, Int.reduceAdd, w32_id, q1, q2, q3, q4]
    simp (disch := first | assumption | omega | (simp only [zcat_0, zcat_i, zcat_l, zcat_r, zcat_t]; omega) | simp) only [e_X8_layRanks_30, e_X8_layRanks_31, e_X8_layRanks_32, e_X8_layRanks_152, zpush_i, zpush_l, zpush_v, Option.bind_some, ↓if_pos, ↓if_neg, Int.reduceAdd, w32_id]
  · intro t h0 h1
    rw [s4 t h0 h1]
    exact sL4_fix hP hW h0 (by omega)
end M4
