/-! THE SEARCH, once for both -/
theorem sDp_f {P : Pg} {t p : Int} {A A' : Sf} (h : A.1 = A'.1) : (sDp P t p A).1 = (sDp P t p A').1 := by
  unfold sDp
  rw [h]
  split
  · split <;> rfl
  · exact h
theorem sAct_f (P : Pg) (t : Int) (S : Sc) (f f' : Int) : (sAct P t (S, f)).1 = (sAct P t (S, f')).1 := by
  unfold sAct
  dsimp only
  split
  · unfold sX
    exact sDp_f (sDp_f (sDp_f rfl))
  iterate 6
    split
    · first | rfl | (split <;> first | rfl | (split <;> rfl))
  split
  · unfold sLk
    dsimp only
    split
    · rfl
    · split <;> rfl
  · split <;> rfl
def aT (P : Pg) (L : BL) (i t : Nat) : BL := if (eS L i).1 (13 + t) = 0 then aCome L ((sAct P t (eS L i, 0)).1, (i : Int), (t : Int), eD L i + 1) else L
def aTs (P : Pg) (L : BL) (i : Nat) : Nat → BL
  | 0 => L
  | t + 1 => aT P (aTs P L i t) i t
def aX (P : Pg) : Nat → Nat → BL → BL
  | 0, _, L => L
  | f + 1, i, L => if i < L.length ∧ L.length ≤ 3000 then aX P f (i + 1) (aTs P L i 4) else L
def aF (P : Pg) (S : Sc) : BL := aX P 3001 0 [(S, -9, -9, 0)]
section X1
variable {d : Nat} {w : zW} {P : Pg} {L : BL} {e : Ent} {S : Sc}
theorem aCome_len : L.length ≤ (aCome L e).length := by
  unfold aCome
  split
  · omega
  · split
    · simp
    · omega
theorem aCome_get {i : Nat} (h : i < L.length) : (aCome L e).getD i e00 = L.getD i e00 := by
  unfold aCome
  split
  · rfl
  · split
    · exact getD_lt h
    · rfl
theorem aT_len {i t : Nat} : L.length ≤ (aT P L i t).length := by
  unfold aT
  split
  · exact aCome_len
  · omega
theorem aT_get {i t j : Nat} (h : j < L.length) : (aT P L i t).getD j e00 = L.getD j e00 := by
  unfold aT
  split
  · exact aCome_get h
  · rfl
theorem aTs_len {i : Nat} : ∀ t : Nat, L.length ≤ (aTs P L i t).length
  | 0 => Nat.le_refl _
  | t + 1 => Nat.le_trans (aTs_len t) aT_len
theorem aTs_get {i j : Nat} (h : j < L.length) : ∀ t : Nat, (aTs P L i t).getD j e00 = L.getD j e00
  | 0 => rfl
  | t + 1 => by
    rw [aTs, aT_get (Nat.lt_of_lt_of_le h (aTs_len t)), aTs_get h t]
theorem EG.of (hP : WP P) (h : LG P L) {i t : Nat} (hi : i < L.length) (ht : t < 4) (hh : (eS L i).1 (13 + t) = 0) : EG P L ((sAct P t (eS L i, 0)).1, (i : Int), (t : Int), eD L i + 1) := by
  refine ⟨(h.2.1 i hi).act hP (by omega) (by omega) hh, fun _ => ⟨by simp, by simpa using hi, by simp, show (t : Int) < 4 by omega, ?_⟩, fun z => by omega⟩
  simp
theorem LG.t (hP : WP P) (h : LG P L) {i t : Nat} (hi : i < L.length) (ht : t < 4) : LG P (aT P L i t) := by
  unfold aT
  split
  · next hh => exact h.come (EG.of hP h hi ht hh)
  · exact h
theorem LG.ts (hP : WP P) (h : LG P L) {i : Nat} (hi : i < L.length) : ∀ t : Nat, t ≤ 4 → LG P (aTs P L i t)
  | 0, _ => h
  | t + 1, ht => (LG.ts hP h hi t (by omega)).t hP (Nat.lt_of_lt_of_le hi (aTs_len t)) (by omega)
theorem LG.x (hP : WP P) : ∀ (f i : Nat) {L : BL}, LG P L → LG P (aX P f i L)
  | 0, _, _, h => h
  | f + 1, i, L, h => by
    rw [aX]
    split
    · next c => exact LG.x hP f (i + 1) (h.ts hP c.1 4 (by omega))
    · exact h
theorem LG.one (hW : WS P S) : LG P [(S, -9, -9, 0)] := by
  refine ⟨by simp, fun i hi => ?_, fun i h0 hi => ?_, fun _ => ⟨rfl, rfl, rfl⟩⟩
  · have : i = 0 := by simp at hi; omega
    subst this
    exact hW
  · simp at hi
    omega
/-! the reference -/
def FX (w w' : zW) : Prop := ∀ a i, a ≠ 72 → a ≠ 73 → a ≠ 81 → a ≠ 82 → a ≠ 83 → a ≠ 84 → a ≠ 85 → (a ≠ 67 ∨ i ≠ 6 ∧ i ≠ 28) → w' a i = w a i
theorem FX.rf : FX w w := fun _ _ _ _ _ _ _ _ _ _ => rfl
theorem FX.tr {w' w'' : zW} (h : FX w w') (h' : FX w' w'') : FX w w'' := fun a i h1 h2 h3 h4 h5 h6 h7 h8 => (h' a i h1 h2 h3 h4 h5 h6 h7 h8).trans (h a i h1 h2 h3 h4 h5 h6 h7 h8)
theorem FQ.x {w' : zW} (h : FQ w w') : FX w w' := fun a i h1 h2 _ _ _ _ _ h8 => h a i h1 h2 (by omega)
theorem FB.x {w' : zW} (h : FB w w') : FX w w' := fun a i _ _ h3 h4 h5 h6 h7 h8 => h a i h3 h4 h5 h6 h7 (by omega)
theorem PO.fx {w' : zW} (h : PO w P) (hF : FX w w') : PO w' P := by
  refine ⟨?_, fun p h0 h3 => ?_, fun t h0 hn => ?_⟩
  · rw [hF 67 1 (by omega) (by omega) (by omega) (by omega) (by omega) (by omega) (by omega) (by omega)]; exact h.1
  · rw [hF 68 p (by omega) (by omega) (by omega) (by omega) (by omega) (by omega) (by omega) (by omega)]; exact h.2.1 p h0 h3
  · obtain ⟨a1, a2, a3⟩ := h.2.2 t h0 hn
    refine ⟨?_, ?_, fun i i0 i1 => ?_⟩
    · rw [hF 69 t (by omega) (by omega) (by omega) (by omega) (by omega) (by omega) (by omega) (by omega)]; exact a1
    · rw [hF 70 t (by omega) (by omega) (by omega) (by omega) (by omega) (by omega) (by omega) (by omega)]; exact a2
    · have e : w' 71 = w 71 := by
        funext j
        exact hF 71 j (by omega) (by omega) (by omega) (by omega) (by omega) (by omega) (by omega) (by omega)
      rw [e]
      exact a3 i i0 i1
theorem ML.fq {w' : zW} {n : Int} (h : ML w n L) (hF : FQ w w') : ML w' n L := by
  obtain ⟨a1, a2, a3⟩ := h
  have e : ∀ a, a ≠ 72 → a ≠ 73 → a ≠ 67 → w' a = w a := fun a h1 h2 h3 => by
    funext i
    exact hF a i h1 h2 (Or.inl h3)
  refine ⟨?_, fun i hi => ?_, ?_⟩
  · rw [hF 67 28 (by omega) (by omega) (by omega)]; exact a1
  · rw [e 81 (by omega) (by omega) (by omega), e 82 (by omega) (by omega) (by omega), e 83 (by omega) (by omega) (by omega), e 84 (by omega) (by omega) (by omega)]
    exact a2 i hi
  · rw [e 85 (by omega) (by omega) (by omega)]
    exact a3
theorem m_xt {i t : Nat} {y : Int} {f : Int} (hP : WP P) (hO : PO w P) (hM : ML w (P 0 6) L) (hL : LG P L) (hi : i < L.length) (hi3 : i < 3001) (ht : (t : Int) < P 0 6) (hf : w32 (w 67 6) = w 67 6) : ∃ w', Rn (d + 5) 131 74 [(2, 67), (1, y), (9, 0), (0, f), (0, (i : Int)), (0, (t : Int))] [] 92 w = Rn (d + 5) 131 74 [(2, 67), (1, y), (9, 0), (0, f), (0, (i : Int)), (0, (t : Int) + 1)] [] 92 w' ∧ ML w' (P 0 6) (aT P L i t) ∧ FX w w' ∧ w32 (w' 67 6) = w' 67 6 := by
  have zo67 := zo_67; have zo72 := zo_72; have zl72 := zl_72; have zo81 := zo_81; have zl81 := zl_81
  have hP4 := hP.2.1
  have hW := hL.2.1 i hi
  have e1 := hO.1
  obtain ⟨s1, -⟩ := hM.2.1 i hi
  obtain ⟨w1, q1, q2, q3, q4⟩ := m_open (d := d + 4) (w := w) hP hW.1
  have M1 := hM.fq q3
  have O1 := hO.fq q3
  have hh := (q2.2.1 t (by omega) (by omega)).1
  rw [if_pos ht] at hh
  unfold aT
  by_cases h0 : (eS L i).1 (13 + (t : Int)) = 0
  · rw [if_pos h0]
    rw [h0] at hh
    obtain ⟨w2, r1, r2, r3, r4⟩ := m_act (d := d) (t := t) (by omega) (by omega) hP hW q2 O1 h0 (by rw [q4]; exact hf)
    have W2 : WS P (sAct P t (eS L i, w1 67 6)).1 := hW.act hP (by omega) (by omega) h0
    have hpk := m_packed (d := d + 4) hP W2.1 r2
    rw [sAct_f P t (eS L i) (w1 67 6) 0] at hpk
    obtain ⟨w3, u1, u2, u3⟩ := m_comeL (d := d + 4) (e := ((sAct P t (eS L i, 0)).1, (i : Int), (t : Int), eD L i + 1)) (M1.fq r3) hP hL (EG.of hP hL hi (by omega) h0)
    have u1' : Cl (d + 4) 130 [(2, 67), (1, packR (P 0 6) (sAct P t (eS L i, 0)).1), (0, (i : Int)), (0, (t : Int))] 92 w2 = some ((9, 0), 92, w3) := u1
    have e6 : w3 67 6 = w2 67 6 := u3 67 6 (by omega) (by omega) (by omega) (by omega) (by omega) (by omega)
    refine ⟨w3, ?_, u2, (q3.x.tr r3.x).tr u3.x, ?_⟩
    · rw [e_X8_explores_74]
      simp (disch := first | assumption | omega | (simp only [zcat_0, zcat_i, zcat_l, zcat_r, zcat_t]; omega) | simp) only [e_X8_explores_76, e_X8_explores_77, e_X8_explores_80, e_X8_explores_83, e_X8_explores_84, e_X8_explores_85, e_X8_explores_88, e_X8_explores_90, e_X8_explores_91, e_X8_explores_94, e_X8_explores_95, e_X8_explores_98, e_X8_explores_100, e_X8_explores_102, e_X8_explores_103, e_X8_explores_104, e_X8_explores_107, e_X8_explores_108, e_X8_explores_110, e_X8_explores_113, e_X8_explores_114, e_X8_explores_115, e_X8_explores_118, e_X8_explores_120, e_X8_explores_122, e_X8_explores_125, e_X8_explores_128, zpush_i, zpush_l, zpush_v, Option.bind_some, ↓if_pos, ↓if_neg, Int.reduceAdd, w32_id, e1, s1, q1, hh, r1, hpk, u1']
    · rw [e6, r4]
      exact sAct_w (by rw [q4]; exact hf)
  · rw [if_neg h0]
    refine ⟨w1, ?_, M1, q3.x, by rw [q4]; exact hf⟩
    rw [e_X8_explores_74]
    simp (disch := first | assumption | omega | (simp only [zcat_0, zcat_i, zcat_l, zcat_r, zcat_t]; omega) | simp) only [e_X8_explores_76, e_X8_explores_77, e_X8_explores_80, e_X8_explores_83, e_X8_explores_84, e_X8_explores_85, e_X8_explores_88, e_X8_explores_90, e_X8_explores_91, e_X8_explores_94, e_X8_explores_95, e_X8_explores_98, e_X8_explores_100, e_X8_explores_102, e_X8_explores_103, e_X8_explores_104, e_X8_explores_107, e_X8_explores_108, e_X8_explores_110, e_X8_explores_113, e_X8_explores_114, e_X8_explores_115, e_X8_explores_118, e_X8_explores_120, e_X8_explores_122, e_X8_explores_125, e_X8_explores_128, zpush_i, zpush_l, zpush_v, Option.bind_some, ↓if_pos, ↓if_neg, Int.reduceAdd, w32_id, e1, s1, q1, hh]
theorem aTs_n (hP : WP P) {i : Nat} (hL : LG P L) (hi : i < L.length) : ∀ t : Nat, t ≤ 4 → P 0 6 ≤ t → aTs P L i t = aTs P L i (P 0 6).toNat
  | 0, _, h => by rw [show (P 0 6).toNat = 0 by omega]
  | t + 1, h4, h => by
    by_cases e : P 0 6 = t + 1
    · rw [e]; rfl
    · rw [← aTs_n hP hL hi t (by omega) (by omega), aTs]
      have e2 : eS (aTs P L i t) i = eS L i := by unfold eS; rw [aTs_get hi t]
      have := how7 (t := (t : Int)) (hL.2.1 i hi).1 hP (by omega) (by omega) (by omega)
      unfold aT
      rw [e2, if_neg (by omega)]
theorem m_xts {i : Nat} {y : Int} {f : Int} (hP : WP P) (hL : LG P L) (hi : i < L.length) (hi3 : i < 3001) : ∀ (u t : Nat) (w : zW), (t : Int) + u = P 0 6 → PO w P → ML w (P 0 6) (aTs P L i t) → w32 (w 67 6) = w 67 6 → ∃ w', Rn (d + 5) 131 74 [(2, 67), (1, y), (9, 0), (0, f), (0, (i : Int)), (0, (t : Int))] [] 92 w = Rn (d + 5) 131 52 [(2, 67), (1, y), (9, 0), (0, f), (0, (i : Int) + 1), (0, P 0 6)] [] 92 w' ∧ ML w' (P 0 6) (aTs P L i 4) ∧ FX w w' ∧ w32 (w' 67 6) = w' 67 6 := by
  have zo67 := zo_67
  have hP4 := hP.2.1
  intro u
  induction u with
  | zero =>
    intro t w ht hO hM hf
    have et : (t : Int) = P 0 6 := by omega
    have e1 := hO.1
    refine ⟨w, ?_, ?_, FX.rf, hf⟩
    · rw [et]
      simp (disch := first | assumption | omega | (simp only [zcat_0, zcat_i, zcat_l, zcat_r, zcat_t]; omega) | simp) only [e_X8_explores_74, e_X8_explores_76, e_X8_explores_77, e_X8_explores_80, e_X8_explores_131, e_X8_explores_134, zpush_i, zpush_l, zpush_v, Option.bind_some, ↓if_pos, ↓if_neg, Int.reduceAdd, w32_id, e1]
    · rw [aTs_n hP hL hi 4 (by omega) (by omega), show (P 0 6).toNat = t by omega]
      exact hM
  | succ u ih =>
    intro t w ht hO hM hf
    obtain ⟨w1, q1, q2, q3, q4⟩ := m_xt (d := d) (y := y) (f := f) (i := i) (t := t) hP hO hM (hL.ts hP hi t (by omega)) (Nat.lt_of_lt_of_le hi (aTs_len t)) hi3 (by omega) hf
    obtain ⟨w2, g1, g2, g3, g4⟩ := ih (t + 1) w1 (by omega) (hO.fx q3) q2 q4
    refine ⟨w2, ?_, g2, q3.tr g3, g4⟩
    rw [q1, ← g1, show ((t + 1 : Nat) : Int) = (t : Int) + 1 by omega]
theorem m_xi {y : Int} {f : Int} (hP : WP P) : ∀ (u i : Nat) (w : zW) (L : BL) (v : zV), i + u = 3001 → LG P L → PO w P → ML w (P 0 6) L → w32 (w 67 6) = w 67 6 → ∃ w' v' v'', Rn (d + 5) 131 52 [(2, 67), (1, y), (9, 0), (0, f), (0, (i : Int)), v] [] 92 w = Rn (d + 5) 131 137 [(2, 67), (1, y), (9, 0), (0, f), v', v''] [] 92 w' ∧ ML w' (P 0 6) (aX P u i L) ∧ FX w w' := by
  have zo67 := zo_67
  have hP0 := hP.1
  intro u
  induction u with
  | zero =>
    intro i w L v hi hL hO hM hf
    have e := hM.1
    have := hL.1
    refine ⟨w, (0, (i : Int)), v, ?_, hM, FX.rf⟩
    by_cases c : (i : Int) < L.length
    · omega
    · simp (disch := first | assumption | omega | (simp only [zcat_0, zcat_i, zcat_l, zcat_r, zcat_t]; omega) | simp) only [e_X8_explores_52, e_X8_explores_54, e_X8_explores_55, e_X8_explores_58, zpush_i, zpush_l, zpush_v, Option.bind_some, ↓if_pos, ↓if_neg, Int.reduceAdd, w32_id, e]
  | succ u ih =>
    intro i w L v hi hL hO hM hf
    have e := hM.1
    by_cases c : i < L.length ∧ L.length ≤ 3000
    · rw [aX, if_pos c]
      obtain ⟨w1, q1, q2, q3, q4⟩ := m_xts (d := d) (y := y) (f := f) (i := i) hP hL c.1 (by omega) (P 0 6).toNat 0 w (by omega) hO hM hf
      obtain ⟨w2, v', v'', g1, g2, g3⟩ := ih (i + 1) w1 (aTs P L i 4) (0, P 0 6) (by omega) (hL.ts hP c.1 4 (by omega)) (hO.fx q3) q2 q4
      refine ⟨w2, v', v'', ?_, g2, q3.tr g3⟩
      have q1' : Rn (d + 5) 131 74 [(2, 67), (1, y), (9, 0), (0, f), (0, (i : Int)), (0, 0)] [] 92 w = _ := q1
      rw [← g1, show ((i + 1 : Nat) : Int) = (i : Int) + 1 by omega, ← q1']
      simp (disch := first | assumption | omega | (simp only [zcat_0, zcat_i, zcat_l, zcat_r, zcat_t]; omega) | simp) only [e_X8_explores_52, e_X8_explores_54, e_X8_explores_55, e_X8_explores_58, e_X8_explores_61, e_X8_explores_62, e_X8_explores_65, e_X8_explores_68, e_X8_explores_71, e_X8_explores_72, zpush_i, zpush_l, zpush_v, Option.bind_some, ↓if_pos, ↓if_neg, Int.reduceAdd, w32_id, e]
    · rw [aX, if_neg c]
      refine ⟨w, (0, (i : Int)), v, ?_, hM, FX.rf⟩
      by_cases c1 : i < L.length
      · simp (disch := first | assumption | omega | (simp only [zcat_0, zcat_i, zcat_l, zcat_r, zcat_t]; omega) | simp) only [e_X8_explores_52, e_X8_explores_54, e_X8_explores_55, e_X8_explores_58, e_X8_explores_61, e_X8_explores_62, e_X8_explores_65, e_X8_explores_68, zpush_i, zpush_l, zpush_v, Option.bind_some, ↓if_pos, ↓if_neg, Int.reduceAdd, w32_id, e]
      · simp (disch := first | assumption | omega | (simp only [zcat_0, zcat_i, zcat_l, zcat_r, zcat_t]; omega) | simp) only [e_X8_explores_52, e_X8_explores_54, e_X8_explores_55, e_X8_explores_58, zpush_i, zpush_l, zpush_v, Option.bind_some, ↓if_pos, ↓if_neg, Int.reduceAdd, w32_id, e]
end X1
