/-! the whole state: what both sides stand for -/
abbrev Kp : Type := Int → Option (Sc × Int)
def CKp (w : zW) (K : Kp) : Prop := ∀ x, 0 ≤ x → x < 2 → (K x = none → w 37 x = 0) ∧ (∀ e, K x = some e → w 37 x = 1 ∧ w 35 x = packC e.1 ∧ w 36 x = e.2)
def MKp (w : zW) (n : Int) (K : Kp) : Prop := ∀ x, 0 ≤ x → x < 2 → (K x = none → w 91 x = 0) ∧ (∀ e, K x = some e → w 91 x = 1 ∧ w 89 x = packR n e.1 ∧ w 90 x = e.2)
def CTop (w : zW) (j : Int) (T : List Int) (P : Pg) (S : Sc) (f : Int) (H : Hs) (K : Kp) (Q : Sg) : Prop :=
  w 0 2 = j ∧ w 0 3 = 11 - j ∧ isT j ∧ TO w j P ∧ CX0 w T ∧ CS w 19 S ∧ w 19 10 = f ∧ CPa w H ∧ CKp w K ∧ CSg w Q ∧ (KS w P S ∨ w 41 7 = 1) ∧ w32 (w 55 10) = w 55 10
def MTop (w : zW) (T : List Int) (P : Pg) (S : Sc) (f : Int) (H : Hs) (K : Kp) (Q : Sg) : Prop :=
  PO w P ∧ MX0 w T ∧ RS w (P 0 6) S ∧ w 67 6 = f ∧ MPa w (P 0 6) H ∧ MKp w (P 0 6) K ∧ MSg w Q
def AG (T : List Int) (P : Pg) (S : Sc) (f : Int) (H : Hs) (K : Kp) (Q : Sg) : Prop :=
  WP P ∧ WS P S ∧ w32 f = f ∧ (T.length ≤ 120 ∧ ∀ x, x ∈ T → 0 ≤ x ∧ x ≤ 255) ∧ QG Q ∧ (∀ i : Nat, i < H.length → WS P (hH H i).1 ∧ w32 (hH H i).2 = (hH H i).2) ∧ (∀ x e, K x = some e → WS P e.1 ∧ w32 e.2 = e.2)
section Z1
variable {d : Nat} {w w' : zW} {j x y : Int} {T : List Int} {P : Pg} {S : Sc} {f : Int} {H : Hs} {K : Kp} {Q : Sg}
theorem CS.at {k : Int} (h : CS w k S) (e : ∀ a, k ≤ a → a ≤ k + 8 → w' a = w a) : CS w' k S := by
  unfold CS
  rw [e (k + 1) (by omega) (by omega), e (k + 2) (by omega) (by omega), e (k + 3) (by omega) (by omega), e (k + 4) (by omega) (by omega), e (k + 5) (by omega) (by omega), e (k + 6) (by omega) (by omega), e (k + 7) (by omega) (by omega), e (k + 8) (by omega) (by omega), e k (by omega) (by omega)]
  exact h
theorem CX0.at (h : CX0 w T) (e : w' 0 1 = w 0 1) (e1 : w' 1 = w 1) : CX0 w' T := by
  unfold CX0
  rw [e, e1]
  exact h
theorem CSg.at (h : CSg w Q) (e : ∀ a, 38 ≤ a → a ≤ 40 → w' a = w a) : CSg w' Q := by
  unfold CSg
  rw [e 38 (by omega) (by omega), e 39 (by omega) (by omega), e 40 (by omega) (by omega)]
  exact h
theorem CKp.at (h : CKp w K) (e : ∀ a, 35 ≤ a → a ≤ 37 → w' a = w a) : CKp w' K := by
  unfold CKp
  rw [e 35 (by omega) (by omega), e 36 (by omega) (by omega), e 37 (by omega) (by omega)]
  exact h
theorem TO.at (h : TO w j P) (e : ∀ a, j ≤ a → a ≤ j + 6 → w' a = w a) : TO w' j P := fun a h0 h1 i => by
  rw [e (j + a) (by omega) (by omega)]
  exact h a h0 h1 i
theorem KS.at (h : KS w P S ∨ w 41 7 = 1) (e : ∀ a, 41 ≤ a → a ≤ 66 → w' a = w a) : KS w' P S ∨ w' 41 7 = 1 := by
  unfold KS CL CW at *
  rw [e 41 (by omega) (by omega), e 42 (by omega) (by omega), e 43 (by omega) (by omega), e 44 (by omega) (by omega), e 65 (by omega) (by omega), e 66 (by omega) (by omega)]
  exact h
theorem CTop.at (h : CTop w j T P S f H K Q) (e : ∀ a, a ≤ 66 → w' a = w a) : CTop w' j T P S f H K Q := by
  obtain ⟨h1, h2, h3, h4, h5, h6, h7, h8, h9, h10, h11, h12⟩ := h
  refine ⟨by rw [e 0 (by omega)]; exact h1, by rw [e 0 (by omega)]; exact h2, h3, h4.at (fun a _ _ => e a (by omega)), h5.at (by rw [e 0 (by omega)]) (e 1 (by omega)), h6.at (fun a _ _ => e a (by omega)), by rw [e 19 (by omega)]; exact h7, h8.at (fun a _ _ => e a (by omega)), h9.at (fun a _ _ => e a (by omega)), h10.at (fun a _ _ => e a (by omega)), KS.at h11 (fun a _ _ => e a (by omega)), by rw [e 55 (by omega)]; exact h12⟩
theorem MTop.at (h : MTop w T P S f H K Q) (e : ∀ a, 67 ≤ a → w' a = w a) : MTop w' T P S f H K Q := by
  unfold MTop PO MX0 RS MPa MKp MSg at *
  rw [e 67 (by omega), e 68 (by omega), e 69 (by omega), e 70 (by omega), e 71 (by omega), e 72 (by omega), e 74 (by omega), e 79 (by omega), e 80 (by omega), e 88 (by omega), e 89 (by omega), e 90 (by omega), e 91 (by omega)]
  exact h
theorem CTop.kx (h : CTop w j T P S f H K Q) (hA : AG T P S f H K Q) : KX w j P S := by
  obtain ⟨h1, h2, h3, h4, h5, h6, h7, h8, h9, h10, h11, h12⟩ := h
  exact ⟨h1, h3, h4, h6, h11, h12, hA.1, hA.2.1⟩
theorem MTop.mx (h : MTop w T P S f H K Q) (hA : AG T P S f H K Q) : MX w P S Q := by
  obtain ⟨h1, h2, h3, h4, h5, h6, h7⟩ := h
  exact ⟨h3, h1, hA.2.2.2.2.1, h7, by rw [h4]; exact hA.2.2.1, hA.1, hA.2.1⟩
theorem CTop.fk (h : CTop w j T P S f H K Q) (hF : FK w w') (hK : KS w' P S ∨ w' 41 7 = 1) (hw : w32 (w' 55 10) = w' 55 10) : CTop w' j T P S f H K Q := by
  obtain ⟨h1, h2, h3, h4, h5, h6, h7, h8, h9, h10, h11, h12⟩ := h
  have e : ∀ a, a ≤ 40 → w' a = w a := fun a ha => by funext i; exact hF a i (by omega)
  exact ⟨by rw [e 0 (by omega)]; exact h1, by rw [e 0 (by omega)]; exact h2, h3, h4.at (fun a _ _ => e a (by omega)), h5.at (by rw [e 0 (by omega)]) (e 1 (by omega)), h6.at (fun a _ _ => e a (by omega)), by rw [e 19 (by omega)]; exact h7, h8.at (fun a _ _ => e a (by omega)), h9.at (fun a _ _ => e a (by omega)), h10.at (fun a _ _ => e a (by omega)), hK, hw⟩
theorem MTop.fv (h : MTop w T P S f H K Q) (hF : FV w w') (hR : RS w' (P 0 6) S) : MTop w' T P S f H K Q := by
  obtain ⟨h1, h2, h3, h4, h5, h6, h7⟩ := h
  have e : ∀ a, (67 < a ∧ a < 72) ∨ (73 < a ∧ a < 81) ∨ 87 < a → w' a = w a := fun a ha => by funext i; exact hF a i (by omega) (by omega) (by omega)
  have e7 : ∀ i, (i < 28 ∨ 37 < i) → w' 67 i = w 67 i := fun i hi => hF 67 i (by omega) (by omega) (by omega)
  unfold MTop PO MX0 MPa MKp MSg at *
  rw [e7 1 (by omega), e7 9 (by omega), e7 6 (by omega), e7 22 (by omega), e7 39 (by omega), e 68 (by omega), e 69 (by omega), e 70 (by omega), e 71 (by omega), e 74 (by omega), e 79 (by omega), e 80 (by omega), e 88 (by omega), e 89 (by omega), e 90 (by omega), e 91 (by omega)]
  exact ⟨h1, h2, hR, h4, h5, h6, h7⟩
def TopOk (w : zW) : Prop := ∃ j T P S f H K Q, CTop w j T P S f H K Q ∧ MTop w T P S f H K Q ∧ AG T P S f H K Q
/-- a call of the class and the same of the reference -/
def Both (c m : Nat) (as : List zV) : Prop := ∀ w, TopOk w → ∃ (a : Int) (w1 w2 : zW), Cl 10 c ((2, 0) :: as) 92 w = some ((0, a), 92, w1) ∧ Cl 10 m ((2, 67) :: as) 92 w1 = some ((0, a), 92, w2) ∧ TopOk w2
theorem FK.hi (h : FK w w') : ∀ a, 67 ≤ a → w' a = w a := fun a ha => by funext i; exact h a i (by omega)
theorem FV.lo (h : FV w w') : ∀ a, a ≤ 66 → w' a = w a := fun a ha => by funext i; exact h a i (by omega) (by omega) (by omega)
theorem b_all : Both 81 135 [(0, x)] := by
  rintro w ⟨j, T, P, S, f, H, K, Q, hC, hM, hA⟩
  obtain ⟨w1, q1, q2, q3, q4⟩ := r_all (d := 3) (x := x) (hC.kx hA)
  have hC1 := hC.fk q3 q2 q4
  have hM1 := hM.at q3.hi
  obtain ⟨w2, s1, s2, s3⟩ := m_all (d := 2) (x := x) (hM1.mx hA)
  exact ⟨_, w1, w2, q1, s1, j, T, P, S, f, H, K, Q, hC1.at s3.lo, hM1.fv s3 s2, hA⟩
theorem b_can : Both 83 137 [(0, x), (0, y)] := by
  rintro w ⟨j, T, P, S, f, H, K, Q, hC, hM, hA⟩
  obtain ⟨w1, q1, q2, q3, q4⟩ := r_can (d := 3) (p := x) (x := y) (hC.kx hA)
  have hC1 := hC.fk q3 q2 q4
  have hM1 := hM.at q3.hi
  obtain ⟨w2, s1, s2, s3⟩ := m_can (d := 2) (p := x) (x := y) (hM1.mx hA)
  exact ⟨_, w1, w2, q1, s1, j, T, P, S, f, H, K, Q, hC1.at s3.lo, hM1.fv s3 s2, hA⟩
theorem b_slept : Both 84 138 [] := by
  rintro w ⟨j, T, P, S, f, H, K, Q, hC, hM, hA⟩
  obtain ⟨w1, q1, q2, q3, q4⟩ := r_slept (d := 3) (hC.kx hA)
  have hC1 := hC.fk q3 q2 q4
  have hM1 := hM.at q3.hi
  obtain ⟨w2, s1, s2, s3⟩ := m_slept (d := 2) (hM1.mx hA)
  exact ⟨_, w1, w2, q1, s1, j, T, P, S, f, H, K, Q, hC1.at s3.lo, hM1.fv s3 s2, hA⟩
theorem b_worst (hx : -2147483648 ≤ x ∧ x < 2147483648) : Both 82 136 [(0, x)] := by
  rintro w ⟨j, T, P, S, f, H, K, Q, hC, hM, hA⟩
  obtain ⟨w1, q1, q2, q3, q4⟩ := r_worst (d := 3) (x := x) (hC.kx hA) hx
  have hC1 := hC.fk q3 q2 q4
  have hM1 := hM.at q3.hi
  obtain ⟨w2, s1, s2, s3⟩ := m_worst (d := 2) (x := x) (hM1.mx hA)
  exact ⟨_, w1, w2, q1, s1, j, T, P, S, f, H, K, Q, hC1.at s3.lo, hM1.fv s3 s2, hA⟩
theorem b_unseen : Both 87 141 [(0, x)] := by
  rintro w ⟨j, T, P, S, f, H, K, Q, hC, hM, hA⟩
  obtain ⟨w1, q1, q2, q3, q4⟩ := r_unseen (d := 3) (x := x) (hC.kx hA) hA.2.2.2.2.1 hC.2.2.2.2.2.2.2.2.2.1
  have hC1 := hC.fk q3 q2 q4
  have hM1 := hM.at q3.hi
  obtain ⟨w2, s1, s2, s3⟩ := m_unseen (d := 2) (x := x) (hM1.mx hA)
  exact ⟨_, w1, w2, q1, s1, j, T, P, S, f, H, K, Q, hC1.at s3.lo, hM1.fv s3 s2, hA⟩
theorem b_row : Both 78 125 [(0, x)] := by
  rintro w ⟨j, T, P, S, f, H, K, Q, hC, hM, hA⟩
  exact ⟨_, w, w, r_row (d := 10) (x := x) hC.2.2.2.2.2.1 hA.2.1.1, m_row (d := 10) (x := x) hM.2.2.1 hA.2.1.1, j, T, P, S, f, H, K, Q, hC, hM, hA⟩
theorem b_place : Both 76 123 [(0, x), (0, y)] := by
  rintro w ⟨j, T, P, S, f, H, K, Q, hC, hM, hA⟩
  exact ⟨_, w, w, r_place (d := 7) (p := x) (x := y) hC.2.2.2.2.2.1 hA.2.1.1 hA.1, m_place (d := 7) (p := x) (x := y) hM.2.2.1 hM.1 hA.2.1.1 hA.1, j, T, P, S, f, H, K, Q, hC, hM, hA⟩
theorem b_count : Both 90 145 [(0, x)] := by
  rintro w ⟨j, T, P, S, f, H, K, Q, hC, hM, hA⟩
  have hC' := hC
  have hM' := hM
  obtain ⟨h1, h2, h3, h4, h5, h6, h7, h8, h9, h10, h11, h12⟩ := hC
  obtain ⟨g1, g2, g3, g4, g5, g6, g7⟩ := hM
  have q1 := r_count (d := 10) (x := x) h1 h3 h4 h6 h10 h8 h5
  have q2 := m_count (d := 9) (x := x) g3 hA.2.1.1 g1 g7 g5 g2
  rw [h7] at q1
  rw [g4] at q2
  exact ⟨_, w, w, q1, q2, j, T, P, S, f, H, K, Q, hC', hM', hA⟩
end Z1
