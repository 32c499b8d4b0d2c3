/-! TABLES OF SLOTS: 8192 of them, 0 free, else one more than the index of a word -/
def HT (sl h : Int → Int) (cd : Nat → Int) (m : Nat) : Prop :=
  (∀ a, 0 ≤ a → a < 8192 → 0 ≤ sl a ∧ sl a ≤ m) ∧
  (∀ a b, 0 ≤ a → a < 8192 → 0 ≤ b → b < 8192 → sl a = sl b → sl a ≠ 0 → a = b) ∧
  (∀ j : Nat, j < m → ∃ i : Nat, i < 8192 ∧ sl ((h (cd j) + i) % 8192) = j + 1 ∧ ∀ i' : Nat, i' < i → sl ((h (cd j) + i') % 8192) ≠ 0)
section H1
variable {sl sl' h : Int → Int} {cd cd' : Nat → Int} {m : Nat} {x : Int}
theorem HT.nil (hs : ∀ a, 0 ≤ a → a < 8192 → sl a = 0) : HT sl h cd 0 := by
  refine ⟨fun a h0 h1 => ?_, fun a b h0 h1 _ _ _ hn => absurd (hs a h0 h1) hn, fun j hj => absurd hj (Nat.not_lt_zero _)⟩
  rw [hs a h0 h1]
  omega
theorem least {p : Nat → Prop} [DecidablePred p] : ∀ (n : Nat), p n → ∃ k, k ≤ n ∧ p k ∧ ∀ i, i < k → ¬ p i := by
  intro n
  induction n using Nat.strongRecOn with
  | ind n ih =>
    intro hn
    by_cases hc : ∃ i, i < n ∧ p i
    · obtain ⟨i, hi, hp⟩ := hc
      obtain ⟨k, h1, h2, h3⟩ := ih i hi hp
      exact ⟨k, by omega, h2, h3⟩
    · exact ⟨n, by omega, hn, fun i hi hp => hc ⟨i, hi, hp⟩⟩
theorem HT.free (hT : HT sl h cd m) (hm : m ≤ 3001) : ∃ a, 0 ≤ a ∧ a < 8192 ∧ sl a = 0 := by
  by_cases hc : ∃ a, 0 ≤ a ∧ a < 8192 ∧ sl a = 0
  · exact hc
  exfalso
  obtain ⟨h1, h2, -⟩ := hT
  have hne : ∀ a, 0 ≤ a → a < 8192 → sl a ≠ 0 := fun a a0 a1 e => hc ⟨a, a0, a1, e⟩
  have hn : ((List.range 8192).map (fun i : Nat => sl i)).Nodup := by
    refine List.Pairwise.map _ (fun a b hab => ?_) (show List.Pairwise (fun a b : Nat => a < 8192 ∧ b < 8192 ∧ a ≠ b) (List.range 8192) from ?_)
    · intro e
      have := h2 a b (by omega) (by omega) (by omega) (by omega) e (hne a (by omega) (by omega))
      omega
    · rw [List.pairwise_iff_getElem]
      intro i j hi hj hij
      simp only [List.length_range] at hi hj
      simp only [List.getElem_range]
      omega
  have hs : ((List.range 8192).map (fun i : Nat => sl i)) ⊆ (List.range 3001).map (fun i : Nat => (i : Int) + 1) := by
    intro y hy
    rw [List.mem_map] at hy ⊢
    obtain ⟨i, hi, rfl⟩ := hy
    rw [List.mem_range] at hi
    have b := h1 i (by omega) (by omega)
    have c := hne i (by omega) (by omega)
    refine ⟨(sl i - 1).toNat, ?_, by omega⟩
    rw [List.mem_range]
    omega
  have := List.Nodup.length_le_of_subset hn hs
  simp only [List.length_map, List.length_range] at this
  omega
theorem HT.find (hT : HT sl h cd m) (hm : m ≤ 3001) (h0 : 0 ≤ h x) (h1 : h x < 8192) : ∃ n : Nat, n < 8192 ∧ (sl ((h x + n) % 8192) = 0 ∨ sl ((h x + n) % 8192) ≠ 0 ∧ cd (sl ((h x + n) % 8192) - 1).toNat = x) ∧ ∀ i : Nat, i < n → sl ((h x + i) % 8192) ≠ 0 ∧ cd (sl ((h x + i) % 8192) - 1).toNat ≠ x := by
  obtain ⟨a, a0, a1, ha⟩ := hT.free hm
  obtain ⟨k, k1, k2, k3⟩ := least (p := fun n => sl ((h x + (n : Nat)) % 8192) = 0 ∨ sl ((h x + (n : Nat)) % 8192) ≠ 0 ∧ cd (sl ((h x + (n : Nat)) % 8192) - 1).toNat = x) ((a - h x) % 8192).toNat (by
    left
    have : (h x + (((a - h x) % 8192).toNat : Int)) % 8192 = a := by omega
    rw [this]
    exact ha)
  refine ⟨k, by omega, k2, fun i hi => ?_⟩
  have := k3 i hi
  by_cases e : sl ((h x + i) % 8192) = 0
  · exact absurd (Or.inl e) this
  · exact ⟨e, fun e2 => this (Or.inr ⟨e, e2⟩)⟩
theorem HT.notin (hT : HT sl h cd m) {n : Nat} (hz : sl ((h x + n) % 8192) = 0) (hb : ∀ i : Nat, i < n → sl ((h x + i) % 8192) ≠ 0 ∧ cd (sl ((h x + i) % 8192) - 1).toNat ≠ x) : ∀ j : Nat, j < m → cd j ≠ x := by
  intro j hj e
  obtain ⟨i, i1, i2, i3⟩ := hT.2.2 j hj
  rw [e] at i2 i3
  rcases Nat.lt_trichotomy i n with c | c | c
  · have := (hb i c).2
    rw [i2, show ((j : Int) + 1 - 1).toNat = j by omega] at this
    exact this e
  · subst c
    omega
  · exact i3 n c hz
theorem HT.isin (hT : HT sl h cd m) (h0 : 0 ≤ h x) {n : Nat} (hz : sl ((h x + n) % 8192) ≠ 0 ∧ cd (sl ((h x + n) % 8192) - 1).toNat = x) : ∃ j : Nat, j < m ∧ cd j = x := by
  have := hT.1 ((h x + n) % 8192) (by omega) (by omega)
  exact ⟨_, by omega, hz.2⟩
theorem HT.add (hT : HT sl h cd m) (h0 : 0 ≤ h x) {n : Nat} (hn : n < 8192) (hz : sl ((h x + n) % 8192) = 0) (hb : ∀ i : Nat, i < n → sl ((h x + i) % 8192) ≠ 0) (hc : ∀ j : Nat, j < m → cd' j = cd j) (hx : cd' m = x) (hs : ∀ a, 0 ≤ a → a < 8192 → sl' a = if a = (h x + n) % 8192 then (m : Int) + 1 else sl a) : HT sl' h cd' (m + 1) := by
  obtain ⟨a1, a2, a3⟩ := hT
  refine ⟨fun a g0 g1 => ?_, fun a b g0 g1 b0 b1 e ne => ?_, fun j hj => ?_⟩
  · rw [hs a g0 g1]
    have := a1 a g0 g1
    split <;> omega
  · rw [hs a g0 g1, hs b b0 b1] at e
    rw [hs a g0 g1] at ne
    have c1 := a1 a g0 g1
    have c2 := a1 b b0 b1
    by_cases ea : a = (h x + n) % 8192
    · by_cases eb : b = (h x + n) % 8192
      · omega
      · rw [if_pos ea, if_neg eb] at e
        omega
    · by_cases eb : b = (h x + n) % 8192
      · rw [if_neg ea, if_pos eb] at e
        omega
      · rw [if_neg ea, if_neg eb] at e
        rw [if_neg ea] at ne
        exact a2 a b g0 g1 b0 b1 e ne
  · by_cases ej : j = m
    · subst ej
      refine ⟨n, hn, ?_, fun i hi => ?_⟩
      · rw [hx, hs _ (by omega) (by omega), if_pos rfl]
      · rw [hx, hs _ (by omega) (by omega)]
        have := hb i hi
        split
        · omega
        · exact this
    · obtain ⟨i, i1, i2, i3⟩ := a3 j (by omega)
      rw [← hc j (by omega)] at i2 i3
      refine ⟨i, i1, ?_, fun i' hi' => ?_⟩
      · rw [hs _ (by omega) (by omega)]
        by_cases e : (h (cd' j) + i) % 8192 = (h x + n) % 8192
        · rw [e] at i2
          omega
        · rw [if_neg e]
          exact i2
      · rw [hs _ (by omega) (by omega)]
        have := i3 i' hi'
        split
        · omega
        · exact this
theorem HT.congr (hT : HT sl h cd m) (hc : ∀ j : Nat, j < m → cd' j = cd j) (hs : ∀ a, 0 ≤ a → a < 8192 → sl' a = sl a) : HT sl' h cd' m := by
  obtain ⟨a1, a2, a3⟩ := hT
  refine ⟨fun a g0 g1 => by rw [hs a g0 g1]; exact a1 a g0 g1, fun a b g0 g1 b0 b1 => by rw [hs a g0 g1, hs b b0 b1]; exact a2 a b g0 g1 b0 b1, fun j hj => ?_⟩
  obtain ⟨i, i1, i2, i3⟩ := a3 j hj
  rw [← hc j hj] at i2 i3
  refine ⟨i, i1, by rw [hs _ (by omega) (by omega)]; exact i2, fun i' hi' => by rw [hs _ (by omega) (by omega)]; exact i3 i' hi'⟩
end H1
theorem an8191 {x : Int} (h0 : 0 ≤ x) (h : x < 2147483648) : z_and x 8191 = x % 8192 := by
  unfold z_and
  have e : (Int32.ofInt x &&& Int32.ofInt 8191).toBitVec.toNat = x.toNat % 8192 := by
    rw [Int32.toBitVec_and, BitVec.toNat_and]
    have e1 : (Int32.ofInt x).toBitVec.toNat = x.toNat := by
      show (BitVec.ofInt 32 x).toNat = x.toNat
      rw [BitVec.toNat_ofInt]
      omega
    have e2 : (Int32.ofInt 8191).toBitVec.toNat = 2 ^ 13 - 1 := by decide +kernel
    rw [e1, e2, Nat.and_two_pow_sub_one_eq_mod]
  rw [i_int (by omega), e]
  omega
def hsC (x : Int) : Int := z_l2i (z_lushr (z_lmul x (-7046029254386353131)) 51)
def hsR (x : Int) : Int := z_l2i (z_land (z_lshr (z_lmul x 6364136223846793005) 40) 8191)
theorem hsR_in (x : Int) : 0 ≤ hsR x ∧ hsR x < 8192 := by
  unfold hsR
  generalize z_lshr (z_lmul x 6364136223846793005) 40 = y
  unfold z_land z_l2i
  rw [Int64.ofInt_toInt]
  have e0 : (Int64.ofInt y &&& Int64.ofInt 8191).toBitVec.toNat ≤ 8191 := by
    rw [Int64.toBitVec_and, BitVec.toNat_and]
    have : (Int64.ofInt 8191).toBitVec.toNat = 8191 := by decide +kernel
    rw [this]
    exact Nat.and_le_right
  have e : (Int64.ofInt y &&& Int64.ofInt 8191).toInt32.toBitVec.toNat ≤ 8191 := by
    rw [Int64.toBitVec_toInt32, BitVec.signExtend_eq_setWidth_of_le _ (by omega), BitVec.toNat_setWidth]
    omega
  rw [i_int (by omega)]
  omega
theorem hsC_in (x : Int) : 0 ≤ hsC x ∧ hsC x < 8192 := by
  unfold hsC
  generalize z_lmul x (-7046029254386353131) = y
  unfold z_lushr z_l2i
  rw [Int64.ofInt_toInt]
  have e0 : ((Int64.ofInt y).toUInt64 >>> ((Int32.ofInt 51).toInt64.toUInt64 &&& Int64.toUInt64 63)).toInt64.toBitVec.toNat < 8192 := by
    show ((Int64.ofInt y).toUInt64 >>> ((Int32.ofInt 51).toInt64.toUInt64 &&& Int64.toUInt64 63)).toNat < 8192
    rw [UInt64.toNat_shiftRight]
    have : ((Int32.ofInt 51).toInt64.toUInt64 &&& Int64.toUInt64 63).toNat % 64 = 51 := by decide +kernel
    rw [this, Nat.shiftRight_eq_div_pow]
    have := (Int64.ofInt y).toUInt64.toNat_lt
    omega
  have e : ((Int64.ofInt y).toUInt64 >>> ((Int32.ofInt 51).toInt64.toUInt64 &&& Int64.toUInt64 63)).toInt64.toInt32.toBitVec.toNat < 8192 := by
    rw [Int64.toBitVec_toInt32, BitVec.signExtend_eq_setWidth_of_le _ (by omega), BitVec.toNat_setWidth]
    omega
  rw [i_int (by omega)]
  omega
