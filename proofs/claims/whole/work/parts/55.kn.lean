section N1
variable {d : Nat} {w : zW} {k j : Int} {S : Sc} {P : Pg} {L : BL} {a : Int → Int}
/-- nothing has changed outside the class's search -/
def FK (w w' : zW) : Prop := ∀ b j, (b < 41 ∨ 66 < b) → w' b j = w b j
theorem FK.rf : FK w w := fun _ _ _ => rfl
theorem FK.tr {w' w'' : zW} (h : FK w w') (h' : FK w' w'') : FK w w'' := fun b j h1 => (h' b j h1).trans (h b j h1)
theorem FR.kk {w' : zW} {k : Int} (h : FR k w w') (hk : k = 45 ∨ k = 55) : FK w w' := fun b j h1 => by rw [h b (by omega)]
theorem FA.kk {w' : zW} (h : FA w w') : FK w w' := fun b j h1 => h b j (by omega) (by omega) (by omega) (by omega)
theorem FW.kk {w' : zW} (h : FW w w') : FK w w' := fun b j h1 => h b j (by omega) (by omega) (by omega)
theorem TO.kk {w' : zW} (h : TO w j P) (hj : isT j) (hF : FK w w') : TO w' j P := fun b h0 h1 i => by
  rw [hF (j + b) i (by omega)]
  exact h b h0 h1 i
theorem CL.fr {w' : zW} {k : Int} (h : CL w L) (hF : FR k w w') (hk : k = 45 ∨ k = 55) : CL w' L := by
  unfold CL
  rw [hF 41 (by omega), hF 42 (by omega), hF 43 (by omega), hF 44 (by omega)]
  exact h
theorem CW.fr {w' : zW} {k : Int} (h : CW w a) (hF : FR k w w') (hk : k = 45 ∨ k = 55) : CW w' a := by
  unfold CW
  rw [hF 41 (by omega), hF 65 (by omega), hF 66 (by omega)]
  exact h
theorem CW.fa {w' : zW} (h : CW w a) (hF : FA w w') : CW w' a := by
  obtain ⟨c0, c1, c2, c3, c4, c5⟩ := h
  refine ⟨?_, ?_, ?_, ?_, ?_, fun p h0 h3 => ?_⟩
  · rw [hF 41 10 (by omega) (by omega) (by omega) (by omega)]; exact c0
  · rw [hF 41 11 (by omega) (by omega) (by omega) (by omega)]; exact c1
  · rw [hF 41 12 (by omega) (by omega) (by omega) (by omega)]; exact c2
  · rw [hF 41 13 (by omega) (by omega) (by omega) (by omega)]; exact c3
  · rw [hF 41 14 (by omega) (by omega) (by omega) (by omega)]; exact c4
  · rw [hF 65 p (by omega) (by omega) (by omega) (by omega), hF 66 p (by omega) (by omega) (by omega) (by omega)]; exact c5 p h0 h3
theorem CL.fw {w' : zW} (h : CL w L) (hF : FW w w') : CL w' L := by
  obtain ⟨c1, c2, c3, c4⟩ := h
  have e : ∀ b, b ≠ 41 → b ≠ 65 → b ≠ 66 → w' b = w b := fun b h1 h2 h3 => by
    funext j
    exact hF b j h2 h3 (Or.inl h1)
  refine ⟨?_, ?_, ?_, ?_⟩
  · rw [hF 41 9 (by omega) (by omega) (by omega)]; exact c1
  · rw [hF 41 8 (by omega) (by omega) (by omega)]; exact c2
  · rw [e 42 (by omega) (by omega) (by omega), e 43 (by omega) (by omega) (by omega)]; exact c3
  · rw [e 44 (by omega) (by omega) (by omega)]; exact c4
theorem CS.fa {w' : zW} (h : CS w k S) (hk : k = 45 ∨ k = 55) (hF : FA w w') : CS w' k S := by
  have e : ∀ b, 44 < b → w' b = w b := fun b h1 => by
    funext j
    exact hF b j (by omega) (by omega) (by omega) (by omega)
  unfold CS
  rw [e (k + 1) (by omega), e (k + 2) (by omega), e (k + 3) (by omega), e (k + 4) (by omega), e (k + 5) (by omega), e (k + 6) (by omega), e (k + 7) (by omega), e (k + 8) (by omega), e k (by omega)]
  exact h
theorem CS.f5 {w' : zW} (h : CS w 45 S) (hF : FR 55 w w') : CS w' 45 S := by
  unfold CS
  rw [hF (45 + 1) (by omega), hF (45 + 2) (by omega), hF (45 + 3) (by omega), hF (45 + 4) (by omega), hF (45 + 5) (by omega), hF (45 + 6) (by omega), hF (45 + 7) (by omega), hF (45 + 8) (by omega), hF 45 (by omega)]
  exact h
theorem aWs_congr {L L' : BL} : ∀ i : Nat, (∀ j : Nat, j < i → eS L' j = eS L j) → aWs L' i = aWs L i
  | 0, _ => rfl
  | i + 1, h => by rw [aWs, aWs, aWs_congr i (fun j hj => h j (by omega)), h i (by omega)]
theorem r_kt {i t : Nat} (hj : isT j) (hk : 0 ≤ k) (hP : WP P) (hT : TO w j P) (hC : CL w L) (hL : LG P L) (hi : i < L.length) (hi3 : i < 3000) (ht : t < 4) (hS : CS w 45 (eS L i)) (hA : CW w a) (hf : w32 (w 55 10) = w 55 10) : ∃ w', Rn (d + 5) 46 78 [(2, 41), (2, j), (2, k), (0, (i : Int)), (0, (t : Int))] [] 92 w = Rn (d + 5) 46 78 [(2, 41), (2, j), (2, k), (0, (i : Int)), (0, (t : Int) + 1)] [] 92 w' ∧ CL w' (aT P L i t) ∧ CS w' 45 (eS L i) ∧ CW w' a ∧ w32 (w' 55 10) = w' 55 10 ∧ FK w w' := by
  have zo41 := zo_41; have zo42 := zo_42; have zl42 := zl_42; have zo45 := zo_45; have zo50 := zo_50; have zl50 := zl_50; have zo55 := zo_55
  obtain ⟨t0, tn, t1, u1, t2, u2, t3, u3, t4, u4, t5, u5, t6, u6⟩ := sTall hj
  have hW := hL.2.1 i hi
  obtain ⟨f1, f2, f3, f4, f5, f6⟩ := hW.1.2.1 t (by omega) (by omega)
  have c5 : w 50 t = howC ((eS L i).1 (13 + t)) := (hS.2.1 t (by omega) (by omega)).2.1
  obtain ⟨s1, -⟩ := hC.2.2.1 i hi hi3
  unfold aT
  rw [e_X3_knows_78]
  by_cases h0 : (eS L i).1 (13 + (t : Int)) = 0
  · rw [if_pos h0]
    rw [h0] at c5
    have c5' : w 50 t = 0 := c5
    obtain ⟨w1, q1, q2, q3, q4⟩ := r_unpack (d := d + 4) (k := 55) (w := w) (by omega) hP hW.1
    obtain ⟨w2, r1, r2, r3, r4⟩ := r_perform (d := d) (k := 55) (j := j) (t := t) (by omega) hj (by omega) (by omega) q2 (hT.kk hj (q3.kk (by omega))) hW hP h0 (by rw [q4]; exact hf)
    have W2 : WS P (sAct P t (eS L i, w1 55 10)).1 := hW.act hP (by omega) (by omega) h0
    have hpk := r_packed (d := d + 4) (k := 55) (by omega) hP W2.1 r2
    rw [sAct_f P t (eS L i) (w1 55 10) 0] at hpk
    have C2 : CL w2 L := (hC.fr q3 (by omega)).fr r3 (by omega)
    obtain ⟨w3, u1, u2, u3⟩ := r_add (d := d + 2) (c := (i : Int) * 4 + t) (e := ((sAct P t (eS L i, 0)).1, (i : Int), (t : Int), eD L i + 1)) C2 hL.1 (by rw [if_neg (by omega)])
    have u1' : Cl (d + 4) 48 [(2, 41), (1, packC (sAct P t (eS L i, 0)).1), (0, (i : Int) * 4 + t)] 92 w2 = some ((9, 0), 92, w3) := u1
    refine ⟨w3, ?_, u2, ((hS.f5 q3).f5 r3).fa (by omega) u3, ((hA.fr q3 (by omega)).fr r3 (by omega)).fa u3, ?_, ((q3.kk (by omega)).tr (r3.kk (by omega))).tr u3.kk⟩
    · simp (disch := first | assumption | omega | (simp only [zcat_0, zcat_i, zcat_l, zcat_r, zcat_t]; omega) | simp) only [e_X3_knows_80, e_X3_knows_81, e_X3_knows_84, e_X3_knows_85, e_X3_knows_88, e_X3_knows_91, e_X3_knows_93, e_X3_knows_94, e_X3_knows_97, e_X3_knows_98, e_X3_knows_101, e_X3_knows_102, e_X3_knows_105, e_X3_knows_106, e_X3_knows_107, e_X3_knows_110, e_X3_knows_111, e_X3_knows_114, e_X3_knows_115, e_X3_knows_117, e_X3_knows_120, e_X3_knows_121, e_X3_knows_122, e_X3_knows_125, e_X3_knows_128, e_X3_knows_129, e_X3_knows_130, e_X3_knows_131, e_X3_knows_133, e_X3_knows_134, e_X3_knows_137, e_X3_knows_140, zpush_i, zpush_l, zpush_v, Option.bind_some, ↓if_pos, ↓if_neg, Int.reduceAdd, w32_id, c5', s1, q1, r1, hpk, u1']
    · rw [u3 55 10 (by omega) (by omega) (by omega) (by omega), r4]
      exact sAct_w (by rw [q4]; exact hf)
  · rw [if_neg h0]
    have c5' : w 50 t ≠ 0 := by rw [c5]; exact fun z => h0 ((howC0 ⟨f3, f4⟩).mp z)
    refine ⟨w, ?_, hC, hS, hA, hf, FK.rf⟩
    simp (disch := first | assumption | omega | (simp only [zcat_0, zcat_i, zcat_l, zcat_r, zcat_t]; omega) | simp) only [e_X3_knows_80, e_X3_knows_81, e_X3_knows_84, e_X3_knows_85, e_X3_knows_88, e_X3_knows_91, e_X3_knows_93, e_X3_knows_94, e_X3_knows_97, e_X3_knows_98, e_X3_knows_101, e_X3_knows_102, e_X3_knows_105, e_X3_knows_106, e_X3_knows_107, e_X3_knows_110, e_X3_knows_111, e_X3_knows_114, e_X3_knows_115, e_X3_knows_117, e_X3_knows_120, e_X3_knows_121, e_X3_knows_122, e_X3_knows_125, e_X3_knows_128, e_X3_knows_129, e_X3_knows_130, e_X3_knows_131, e_X3_knows_133, e_X3_knows_134, e_X3_knows_137, e_X3_knows_140, zpush_i, zpush_l, zpush_v, Option.bind_some, ↓if_pos, ↓if_neg, Int.reduceAdd, w32_id]
theorem r_kts {i : Nat} (hj : isT j) (hk : 0 ≤ k) (hP : WP P) (hL : LG P L) (hi : i < L.length) (hi3 : i < 3000) : ∀ (u t : Nat) (w : zW), t + u = 4 → TO w j P → CL w (aTs P L i t) → CS w 45 (eS L i) → CW w a → w32 (w 55 10) = w 55 10 → ∃ w', Rn (d + 5) 46 78 [(2, 41), (2, j), (2, k), (0, (i : Int)), (0, (t : Int))] [] 92 w = Rn (d + 5) 46 35 [(2, 41), (2, j), (2, k), (0, (i : Int) + 1), (0, 4)] [] 92 w' ∧ CL w' (aTs P L i 4) ∧ CW w' a ∧ w32 (w' 55 10) = w' 55 10 ∧ FK w w' := by
  intro u
  induction u with
  | zero =>
    intro t w ht hT hC hS hA hf
    obtain rfl : t = 4 := by omega
    refine ⟨w, ?_, hC, hA, hf, FK.rf⟩
    show Rn (d + 5) 46 78 [(2, 41), (2, j), (2, k), (0, (i : Int)), (0, 4)] [] 92 w = _
    simp (disch := first | assumption | omega | (simp only [zcat_0, zcat_i, zcat_l, zcat_r, zcat_t]; omega) | simp) only [e_X3_knows_78, e_X3_knows_80, e_X3_knows_81, e_X3_knows_143, e_X3_knows_146, zpush_i, zpush_l, zpush_v, Option.bind_some, ↓if_pos, ↓if_neg, Int.reduceAdd, w32_id]
  | succ u ih =>
    intro t w ht hT hC hS hA hf
    have es : eS (aTs P L i t) i = eS L i := by unfold eS; rw [aTs_get hi t]
    obtain ⟨w1, q1, q2, q3, q4, q5, q6⟩ := r_kt (d := d) (k := k) (t := t) (i := i) (L := aTs P L i t) hj hk hP hT hC (hL.ts hP hi t (by omega)) (Nat.lt_of_lt_of_le hi (aTs_len t)) hi3 (by omega) (by rw [es]; exact hS) hA hf
    rw [es] at q3
    obtain ⟨w2, g1, g2, g3, g4, g5⟩ := ih (t + 1) w1 (by omega) (hT.kk hj q6) q2 q3 q4 q5
    refine ⟨w2, ?_, g2, g3, g4, q6.tr g5⟩
    rw [q1, ← g1, show ((t + 1 : Nat) : Int) = (t : Int) + 1 by omega]
theorem r_ki (hj : isT j) (hk : 0 ≤ k) (hP : WP P) : ∀ (u i : Nat) (w : zW) (L : BL) (v : zV), i + u = 3001 → i ≤ L.length → LG P L → TO w j P → CL w L → CW w (aWs L i) → w32 (w 55 10) = w 55 10 → ∃ w' v' v'' i', Rn (d + 5) 46 35 [(2, 41), (2, j), (2, k), (0, (i : Int)), v] [] 92 w = Rn (d + 5) 46 149 [(2, 41), (2, j), (2, k), v', v''] [] 92 w' ∧ CL w' (aX P u i L) ∧ CW w' (aWs (aX P u i L) i') ∧ ((aX P u i L).length ≤ 3000 → i' = (aX P u i L).length) ∧ w32 (w' 55 10) = w' 55 10 ∧ FK w w' := by
  have zo41 := zo_41; have zo42 := zo_42; have zl42 := zl_42; have zo45 := zo_45
  intro u
  induction u with
  | zero =>
    intro i w L v hi hl hL hT hC hA hf
    refine ⟨w, (0, (i : Int)), v, i, ?_, hC, hA, fun z => ?_, hf, FK.rf⟩
    · simp (disch := first | assumption | omega | (simp only [zcat_0, zcat_i, zcat_l, zcat_r, zcat_t]; omega) | simp) only [e_X3_knows_35, e_X3_knows_36, e_X3_knows_39, zpush_i, zpush_l, zpush_v, Option.bind_some, ↓if_pos, ↓if_neg, Int.reduceAdd, w32_id]
    · have z' : L.length ≤ 3000 := z
      omega
  | succ u ih =>
    intro i w L v hi hl hL hT hC hA hf
    obtain ⟨c1, c2, c3, c4⟩ := id hC
    by_cases c : i < L.length ∧ L.length ≤ 3000
    · rw [aX, if_pos c]
      have hW := hL.2.1 i c.1
      obtain ⟨s1, -⟩ := c3 i c.1 (by omega)
      rw [if_neg (by omega)] at c2
      obtain ⟨w1, q1, q2, q3, q4⟩ := r_unpack (d := d + 4) (k := 45) (w := w) (by omega) hP hW.1
      obtain ⟨w2, r1, r2, r3⟩ := r_weigh (d := d + 2) (i := i) hP hW.1 q2 (hA.fr q3 (by omega)) (AI.all L i) (by omega)
      have T2 : TO w2 j P := (hT.kk hj (q3.kk (by omega))).kk hj r3.kk
      have f2 : w2 55 10 = w 55 10 := by rw [r3 55 10 (by omega) (by omega) (by omega), q3 55 (by omega)]
      obtain ⟨w3, u1, u2, u3, u4, u5⟩ := r_kts (d := d) (k := k) (i := i) hj hk hP hL c.1 (by omega) 4 0 w2 rfl T2 ((hC.fr q3 (by omega)).fw r3) (r3.cs (k := 45) (by omega) q2) r2 (by rw [f2]; exact hf)
      have e4 : aW (eS L i) i (aWs L i) = aWs (aTs P L i 4) (i + 1) := by
        rw [aWs_congr (L := L) (L' := aTs P L i 4) (i + 1) (fun j hj => by unfold eS; rw [aTs_get (by omega) 4])]
        rfl
      rw [e4] at u3
      obtain ⟨w4, v', v'', i', g1, g2, g3, g4, g5, g6⟩ := ih (i + 1) w3 (aTs P L i 4) (0, 4) (by omega) (Nat.lt_of_lt_of_le c.1 (aTs_len 4)) (hL.ts hP c.1 4 (by omega)) (T2.kk hj u5) u2 u3 u4
      refine ⟨w4, v', v'', i', ?_, g2, g3, g4, g5, ((q3.kk (by omega)).tr r3.kk).tr (u5.tr g6)⟩
      have u1' : Rn (d + 5) 46 78 [(2, 41), (2, j), (2, k), (0, (i : Int)), (0, 0)] [] 92 w2 = _ := u1
      rw [← g1, show ((i + 1 : Nat) : Int) = (i : Int) + 1 by omega, ← u1']
      simp (disch := first | assumption | omega | (simp only [zcat_0, zcat_i, zcat_l, zcat_r, zcat_t]; omega) | simp) only [e_X3_knows_35, e_X3_knows_36, e_X3_knows_39, e_X3_knows_42, e_X3_knows_43, e_X3_knows_44, e_X3_knows_47, e_X3_knows_50, e_X3_knows_51, e_X3_knows_54, e_X3_knows_57, e_X3_knows_58, e_X3_knows_61, e_X3_knows_62, e_X3_knows_65, e_X3_knows_66, e_X3_knows_67, e_X3_knows_70, e_X3_knows_71, e_X3_knows_72, e_X3_knows_75, e_X3_knows_76, zpush_i, zpush_l, zpush_v, Option.bind_some, ↓if_pos, ↓if_neg, Int.reduceAdd, w32_id, c1, c2, s1, q1, r1]
    · rw [aX, if_neg c]
      refine ⟨w, (0, (i : Int)), v, i, ?_, hC, hA, fun z => by omega, hf, FK.rf⟩
      by_cases h3 : i < 3000
      · by_cases h4 : (i : Int) < ((min L.length 3000 : Nat) : Int)
        · rw [if_pos (by omega)] at c2
          simp (disch := first | assumption | omega | (simp only [zcat_0, zcat_i, zcat_l, zcat_r, zcat_t]; omega) | simp) only [e_X3_knows_35, e_X3_knows_36, e_X3_knows_39, e_X3_knows_42, e_X3_knows_43, e_X3_knows_44, e_X3_knows_47, e_X3_knows_50, e_X3_knows_51, e_X3_knows_54, zpush_i, zpush_l, zpush_v, Option.bind_some, ↓if_pos, ↓if_neg, Int.reduceAdd, w32_id, c1, c2]
        · simp (disch := first | assumption | omega | (simp only [zcat_0, zcat_i, zcat_l, zcat_r, zcat_t]; omega) | simp) only [e_X3_knows_35, e_X3_knows_36, e_X3_knows_39, e_X3_knows_42, e_X3_knows_43, e_X3_knows_44, e_X3_knows_47, zpush_i, zpush_l, zpush_v, Option.bind_some, ↓if_pos, ↓if_neg, Int.reduceAdd, w32_id, c1]
      · simp (disch := first | assumption | omega | (simp only [zcat_0, zcat_i, zcat_l, zcat_r, zcat_t]; omega) | simp) only [e_X3_knows_35, e_X3_knows_36, e_X3_knows_39, zpush_i, zpush_l, zpush_v, Option.bind_some, ↓if_pos, ↓if_neg, Int.reduceAdd, w32_id]
end N1
