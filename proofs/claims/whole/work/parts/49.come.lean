section B3
variable {d : Nat} {w : zW} {n c x : Int} {S : Sc} {P : Pg} {L : BL} {e : Ent}
theorem m_come_p {h : Int} {pa by' y : Int} (hM : ML w n L) (hl : L.length ≤ 3001) (hh : 0 ≤ h ∧ h < 8192) {m : Nat} (hm : m < 8192) (hb : ∀ i : Nat, i < m → w 85 ((h + i) % 8192) ≠ 0 ∧ packR n (eS L (w 85 ((h + i) % 8192) - 1).toNat) ≠ x) : ∀ (u i : Nat), i + u = m → Rn d 130 19 [(2, 67), (1, x), (9, 0), (0, pa), (0, by'), (1, y), (9, 0), (0, (h + i) % 8192)] [] 92 w = Rn d 130 19 [(2, 67), (1, x), (9, 0), (0, pa), (0, by'), (1, y), (9, 0), (0, (h + m) % 8192)] [] 92 w := by
  have zo67 := zo_67; have zo81 := zo_81; have zl81 := zl_81; have zo85 := zo_85; have zl85 := zl_85
  intro u
  induction u with
  | zero =>
    intro i hi
    obtain rfl : i = m := by omega
    rfl
  | succ u ih =>
    intro i hi
    obtain ⟨b1, b2⟩ := hb i (by omega)
    obtain ⟨c1, c3, c4⟩ := hM
    have r := c4.1 ((h + i) % 8192) (by omega) (by omega)
    have e1 : ((h + i) % 8192 + 1) % 8192 = (h + (i + 1 : Nat)) % 8192 := by omega
    have rr : 0 ≤ (h + i) % 8192 ∧ (h + i) % 8192 < 8192 := by omega
    rw [← ih (i + 1) (by omega), ← e1]
    generalize (h + (i : Int)) % 8192 = p at *
    obtain ⟨s1, -⟩ := c3 (w 85 p - 1).toNat (by omega)
    rw [show (((w 85 p - 1).toNat : Nat) : Int) = w 85 p - 1 by omega] at s1
    rw [e_X8_come_19 (by omega)]
    rcases Int.lt_trichotomy (packR n (eS L (w 85 p - 1).toNat)) x with g | g | g
    · simp (disch := first | assumption | omega | (simp only [zcat_0, zcat_i, zcat_l, zcat_r, zcat_t]; omega) | simp) only [e_X8_come_20, e_X8_come_23, e_X8_come_25, e_X8_come_26, e_X8_come_29, e_X8_come_30, e_X8_come_33, e_X8_come_34, e_X8_come_37, e_X8_come_39, e_X8_come_40, e_X8_come_41, e_X8_come_42, e_X8_come_43, e_X8_come_44, e_X8_come_45, e_X8_come_48, e_X8_come_50, e_X8_come_51, e_X8_come_52, e_X8_come_55, e_X8_come_56, e_X8_come_58, zpush_i, zpush_l, zpush_v, Option.bind_some, ↓if_pos, ↓if_neg, Int.reduceAdd, w32_id, an8191, s1, z_cmp1]
    · exact absurd g b2
    · simp (disch := first | assumption | omega | (simp only [zcat_0, zcat_i, zcat_l, zcat_r, zcat_t]; omega) | simp) only [e_X8_come_20, e_X8_come_23, e_X8_come_25, e_X8_come_26, e_X8_come_29, e_X8_come_30, e_X8_come_33, e_X8_come_34, e_X8_come_37, e_X8_come_39, e_X8_come_40, e_X8_come_41, e_X8_come_42, e_X8_come_43, e_X8_come_44, e_X8_come_45, e_X8_come_48, e_X8_come_50, e_X8_come_51, e_X8_come_52, e_X8_come_55, e_X8_come_56, e_X8_come_58, zpush_i, zpush_l, zpush_v, Option.bind_some, ↓if_pos, ↓if_neg, Int.reduceAdd, w32_id, an8191, s1, z_cmp2]
theorem m_come_h {pa by' : Int} : Cl d 130 [(2, 67), (1, x), (0, pa), (0, by')] 92 w = Rn d 130 19 [(2, 67), (1, x), (9, 0), (0, pa), (0, by'), (1, z_lmul x 6364136223846793005), (9, 0), (0, hsR x)] [] 92 w := by
  show Rn d 130 0 [(2, 67), (1, x), (9, 0), (0, pa), (0, by'), (9, 0), (9, 0), (9, 0)] [] 92 w = _
  simp (disch := first | assumption | omega | (simp only [zcat_0, zcat_i, zcat_l, zcat_r, zcat_t]; omega) | simp) only [e_X8_come_0, e_X8_come_1, e_X8_come_4, e_X8_come_5, e_X8_come_7, e_X8_come_9, e_X8_come_11, e_X8_come_12, e_X8_come_15, e_X8_come_16, e_X8_come_17, zpush_i, zpush_l, zpush_v, Option.bind_some, ↓if_pos, ↓if_neg, Int.reduceAdd, w32_id]
  rfl
theorem m_come_a {p pa by' y v : Int} (hp : 0 ≤ p ∧ p < 8192) (hv : w 85 p = v) (h0 : v = 0) (hm : 0 ≤ w 67 28 ∧ w 67 28 ≤ 3000) (hpa : pa < w 67 28) (hdp : 0 ≤ pa → 0 ≤ w 84 pa ∧ w 84 pa < 100000) : Rn d 130 19 [(2, 67), (1, x), (9, 0), (0, pa), (0, by'), (1, y), (9, 0), (0, p)] [] 92 w = some ((9, 0), 92, zup (zup (zup (zup (zup (zup w 81 (w 67 28) x) 82 (w 67 28) pa) 83 (w 67 28) by') 84 (w 67 28) (if pa < 0 then 0 else w 84 pa + 1)) 67 28 (w 67 28 + 1)) 85 p (w 67 28 + 1)) := by
  have zo67 := zo_67; have zo81 := zo_81; have zl81 := zl_81; have zo82 := zo_82; have zl82 := zl_82; have zo83 := zo_83; have zl83 := zl_83; have zo84 := zo_84; have zl84 := zl_84; have zo85 := zo_85; have zl85 := zl_85
  subst h0
  by_cases c : pa < 0
  · simp (disch := first | assumption | omega | (simp only [zcat_0, zcat_i, zcat_l, zcat_r, zcat_t]; omega) | simp) only [e_X8_come_19, e_X8_come_20, e_X8_come_23, e_X8_come_25, e_X8_come_26, e_X8_come_61, e_X8_come_62, e_X8_come_65, e_X8_come_67, e_X8_come_68, e_X8_come_71, e_X8_come_72, e_X8_come_75, e_X8_come_78, e_X8_come_81, e_X8_come_82, e_X8_come_85, e_X8_come_86, e_X8_come_89, e_X8_come_90, e_X8_come_91, e_X8_come_92, e_X8_come_95, e_X8_come_96, e_X8_come_99, e_X8_come_100, e_X8_come_101, e_X8_come_102, e_X8_come_105, e_X8_come_106, e_X8_come_109, e_X8_come_111, e_X8_come_112, e_X8_come_113, e_X8_come_116, e_X8_come_117, e_X8_come_120, e_X8_come_121, e_X8_come_124, e_X8_come_125, e_X8_come_128, e_X8_come_129, e_X8_come_132, e_X8_come_133, e_X8_come_134, e_X8_come_135, e_X8_come_136, e_X8_come_137, e_X8_come_138, e_X8_come_139, e_X8_come_142, e_X8_come_143, e_X8_come_144, e_X8_come_147, e_X8_come_148, e_X8_come_151, e_X8_come_153, e_X8_come_154, e_X8_come_157, e_X8_come_158, zpush_i, zpush_l, zpush_v, Option.bind_some, ↓if_pos, ↓if_neg, Int.reduceAdd, w32_id, hv, zup_off, zup_self]
  · have := hdp (by omega)
    simp (disch := first | assumption | omega | (simp only [zcat_0, zcat_i, zcat_l, zcat_r, zcat_t]; omega) | simp) only [e_X8_come_19, e_X8_come_20, e_X8_come_23, e_X8_come_25, e_X8_come_26, e_X8_come_61, e_X8_come_62, e_X8_come_65, e_X8_come_67, e_X8_come_68, e_X8_come_71, e_X8_come_72, e_X8_come_75, e_X8_come_78, e_X8_come_81, e_X8_come_82, e_X8_come_85, e_X8_come_86, e_X8_come_89, e_X8_come_90, e_X8_come_91, e_X8_come_92, e_X8_come_95, e_X8_come_96, e_X8_come_99, e_X8_come_100, e_X8_come_101, e_X8_come_102, e_X8_come_105, e_X8_come_106, e_X8_come_109, e_X8_come_111, e_X8_come_112, e_X8_come_113, e_X8_come_116, e_X8_come_117, e_X8_come_120, e_X8_come_121, e_X8_come_124, e_X8_come_125, e_X8_come_128, e_X8_come_129, e_X8_come_132, e_X8_come_133, e_X8_come_134, e_X8_come_135, e_X8_come_136, e_X8_come_137, e_X8_come_138, e_X8_come_139, e_X8_come_142, e_X8_come_143, e_X8_come_144, e_X8_come_147, e_X8_come_148, e_X8_come_151, e_X8_come_153, e_X8_come_154, e_X8_come_157, e_X8_come_158, zpush_i, zpush_l, zpush_v, Option.bind_some, ↓if_pos, ↓if_neg, Int.reduceAdd, w32_id, hv, zup_off, zup_self]
theorem m_come_f {p pa by' y v : Int} (hp : 0 ≤ p ∧ p < 8192) (hv : w 85 p = v) (h0 : v = 0) (hm : 3000 < w 67 28) : Rn d 130 19 [(2, 67), (1, x), (9, 0), (0, pa), (0, by'), (1, y), (9, 0), (0, p)] [] 92 w = some ((9, 0), 92, w) := by
  have zo67 := zo_67; have zo81 := zo_81; have zl81 := zl_81; have zo82 := zo_82; have zl82 := zl_82; have zo83 := zo_83; have zl83 := zl_83; have zo84 := zo_84; have zl84 := zl_84; have zo85 := zo_85; have zl85 := zl_85
  subst h0
  simp (disch := first | assumption | omega | (simp only [zcat_0, zcat_i, zcat_l, zcat_r, zcat_t]; omega) | simp) only [e_X8_come_19, e_X8_come_20, e_X8_come_23, e_X8_come_25, e_X8_come_26, e_X8_come_61, e_X8_come_62, e_X8_come_65, e_X8_come_67, e_X8_come_68, e_X8_come_71, e_X8_come_72, e_X8_come_75, e_X8_come_78, e_X8_come_158, zpush_i, zpush_l, zpush_v, Option.bind_some, ↓if_pos, ↓if_neg, Int.reduceAdd, w32_id, hv]
theorem m_come_b {p pa by' y v : Int} (hp : 0 ≤ p ∧ p < 8192) (hv : w 85 p = v) (h0 : 0 < v) (h1 : v ≤ 3001) (hx : w 81 (v - 1) = x) : Rn d 130 19 [(2, 67), (1, x), (9, 0), (0, pa), (0, by'), (1, y), (9, 0), (0, p)] [] 92 w = some ((9, 0), 92, w) := by
  have zo67 := zo_67; have zo81 := zo_81; have zl81 := zl_81; have zo82 := zo_82; have zl82 := zl_82; have zo83 := zo_83; have zl83 := zl_83; have zo84 := zo_84; have zl84 := zl_84; have zo85 := zo_85; have zl85 := zl_85
  simp (disch := first | assumption | omega | (simp only [zcat_0, zcat_i, zcat_l, zcat_r, zcat_t]; omega) | simp) only [e_X8_come_19, e_X8_come_20, e_X8_come_23, e_X8_come_25, e_X8_come_26, e_X8_come_29, e_X8_come_30, e_X8_come_33, e_X8_come_34, e_X8_come_37, e_X8_come_39, e_X8_come_40, e_X8_come_41, e_X8_come_42, e_X8_come_43, e_X8_come_44, e_X8_come_45, e_X8_come_61, e_X8_come_62, e_X8_come_65, e_X8_come_67, e_X8_come_68, e_X8_come_158, zpush_i, zpush_l, zpush_v, Option.bind_some, ↓if_pos, ↓if_neg, Int.reduceAdd, w32_id, hv, hx, z_cmp0]
theorem LG.dp (h : LG P L) : ∀ i : Nat, i < L.length → 0 ≤ eD L i ∧ eD L i ≤ i := by
  intro i
  induction i using Nat.strongRecOn with
  | ind i ih =>
    intro hi
    by_cases c : i = 0
    · subst c
      have := h.2.2.2 hi
      omega
    · have := h.2.2.1 i (by omega) hi
      have := ih (eP L i).toNat (by omega) (by omega)
      omega
theorem m_comeL (hM : ML w (P 0 6) L) (hP : WP P) (hL : LG P L) (he : EG P L e) : ∃ w', Cl d 130 [(2, 67), (1, packR (P 0 6) e.1), (0, e.2.1), (0, e.2.2.1)] 92 w = some ((9, 0), 92, w') ∧ ML w' (P 0 6) (aCome L e) ∧ FB w w' := by
  obtain ⟨c1, c3, c4⟩ := id hM
  have hl := hL.1
  have hh := hsR_in (packR (P 0 6) e.1)
  obtain ⟨n, hn, h1, h2⟩ := c4.find (x := packR (P 0 6) e.1) (by omega) hh.1 hh.2
  have hr := m_come_p (d := d) (pa := e.2.1) (by' := e.2.2.1) (y := z_lmul (packR (P 0 6) e.1) 6364136223846793005) hM hl hh hn h2 n 0 (by omega)
  have h00 : (hsR (packR (P 0 6) e.1) + ((0 : Nat) : Int)) % 8192 = hsR (packR (P 0 6) e.1) := by
    generalize hsR (packR (P 0 6) e.1) = h at hh
    omega
  rw [h00] at hr
  rw [m_come_h, hr]
  have hrange : 0 ≤ (hsR (packR (P 0 6) e.1) + n) % 8192 ∧ (hsR (packR (P 0 6) e.1) + n) % 8192 < 8192 := by
    generalize hsR (packR (P 0 6) e.1) = h
    omega
  obtain ⟨p, hp⟩ : ∃ p, (hsR (packR (P 0 6) e.1) + n) % 8192 = p := ⟨_, rfl⟩
  rw [hp]
  rw [hp] at h1 hrange
  have rp := c4.1 p hrange.1 hrange.2
  rcases h1 with h1 | ⟨h1, h1'⟩
  · have hz : w 85 ((hsR (packR (P 0 6) e.1) + n) % 8192) = 0 := by rw [hp]; exact h1
    have hno := c4.notin hz h2
    have hnot : ¬ hasC L (packC e.1) = true := fun z => by
      obtain ⟨j, hj, hx⟩ := hasC_iff.mp z
      exact hno j (by omega) ((pk_iff hP (hL.2.1 j hj).1 he.1.1).mpr hx)
    by_cases hm : L.length ≤ 3000
    · rw [aCome_new hnot hm]
      have hpa : e.2.1 < w 67 28 := by
        by_cases cl : L.length = 0
        · have := he.2.2 cl
          omega
        · have := he.2.1 (by omega)
          omega
      have hdp : 0 ≤ e.2.1 → w 84 e.2.1 = eD L e.2.1.toNat := fun z => by
        have := (c3 e.2.1.toNat (by omega)).2.2.2
        rw [show ((e.2.1.toNat : Nat) : Int) = e.2.1 by omega] at this
        exact this
      have ha := m_come_a (d := d) (w := w) (x := packR (P 0 6) e.1) (p := p) (pa := e.2.1) (by' := e.2.2.1) (y := z_lmul (packR (P 0 6) e.1) 6364136223846793005) hrange rfl h1 (by omega) hpa (fun z => by
        have := hL.dp e.2.1.toNat (by omega)
        have := hdp z
        omega)
      have hdd : (if e.2.1 < 0 then 0 else w 84 e.2.1 + 1) = e.2.2.2 := by
        by_cases cl : L.length = 0
        · have := he.2.2 cl
          rw [if_pos (by omega)]
          omega
        · have := he.2.1 (by omega)
          rw [if_neg (by omega), hdp (by omega)]
          omega
      rw [hdd, c1] at ha
      refine ⟨_, ha, ?_, ?_⟩
      · refine ⟨?_, fun i hi => ?_, ?_⟩
        · rw [zup_off _ (Or.inl (by omega)), zup_self, List.length_append]
          rfl
        · by_cases ci : i < L.length
          · obtain ⟨g1, g2, g3, g4⟩ := c3 i ci
            rw [eS_lt ci, eP_lt ci, eB_lt ci, eD_lt ci, ← g1, ← g2, ← g3, ← g4]
            refine ⟨?_, ?_, ?_, ?_⟩
            · simp (disch := omega) only [zup_off]
            · simp (disch := omega) only [zup_off]
            · simp (disch := omega) only [zup_off]
            · simp (disch := omega) only [zup_off]
          · have : i = L.length := by simp at hi; omega
            subst this
            rw [eS_at, eP_at, eB_at, eD_at]
            refine ⟨?_, ?_, ?_, ?_⟩
            · simp (disch := omega) only [zup_off, zup_self]
            · simp (disch := omega) only [zup_off, zup_self]
            · simp (disch := omega) only [zup_off, zup_self]
            · simp (disch := omega) only [zup_off, zup_self]
        · rw [List.length_append]
          refine c4.add hh.1 hn hz (fun i hi => (h2 i hi).1) (fun j hj => by rw [eS_lt hj]) (by rw [eS_at]) (fun a a0 a1 => ?_)
          rw [hp]
          by_cases ea : a = p
          · rw [ea, zup_self, if_pos rfl]
          · rw [if_neg ea, zup_off _ (Or.inr ea)]
            simp (disch := omega) only [zup_off]
      · intro a i n1 n2 n3 n4 n5 n6
        rw [zup_off _ (Or.inl n5), zup_off _ n6, zup_off _ (Or.inl n4), zup_off _ (Or.inl n3), zup_off _ (Or.inl n2), zup_off _ (Or.inl n1)]
    · rw [aCome_full (by omega)]
      exact ⟨w, m_come_f hrange rfl h1 (by omega), hM, fun _ _ _ _ _ _ _ _ => rfl⟩
  · obtain ⟨s1, -⟩ := c3 (w 85 p - 1).toNat (by omega)
    have h1'' : packR (P 0 6) (eS L (w 85 p - 1).toNat) = packR (P 0 6) e.1 := h1'
    rw [show (((w 85 p - 1).toNat : Nat) : Int) = w 85 p - 1 by omega, h1''] at s1
    refine ⟨w, m_come_b hrange rfl (by omega) (by omega) s1, ?_, fun _ _ _ _ _ _ _ _ => rfl⟩
    rw [aCome_in]
    · exact hM
    · refine hasC_iff.mpr ⟨(w 85 p - 1).toNat, by omega, ?_⟩
      exact (pk_iff hP (hL.2.1 _ (by omega)).1 he.1.1).mp h1''
end B3
