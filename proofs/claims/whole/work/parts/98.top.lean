/-! the whole state: what both sides stand for -/
abbrev Kp : Type := Int → Option (Sc × Int)
def CKp (w : zW) (K : Kp) : Prop := ∀ x, 0 ≤ x → x < 2 → (K x = none → w 37 x = 0) ∧ (∀ e, K x = some e → w 37 x = 1 ∧ w 35 x = packC e.1 ∧ w 36 x = e.2)
def MKp (w : zW) (n : Int) (K : Kp) : Prop := ∀ x, 0 ≤ x → x < 2 → (K x = none → w 91 x = 0) ∧ (∀ e, K x = some e → w 91 x = 1 ∧ w 89 x = packR n e.1 ∧ w 90 x = e.2)
def CTop (w : zW) (j : Int) (T : List Int) (P : Pg) (S : Sc) (f : Int) (H : Hs) (K : Kp) (Q : Sg) : Prop :=
  w 0 2 = j ∧ w 0 3 = 11 - j ∧ isT j ∧ TO w j P ∧ CX0 w T ∧ CS w 19 S ∧ w 19 10 = f ∧ CPa w H ∧ CKp w K ∧ CSg w Q ∧ (KS w P S ∨ w 41 7 = 1) ∧ w32 (w 55 10) = w 55 10
def MTop (w : zW) (T : List Int) (P : Pg) (S : Sc) (f : Int) (H : Hs) (K : Kp) (Q : Sg) : Prop :=
  PO w P ∧ MX0 w T ∧ RS w (P 0 6) S ∧ w 67 6 = f ∧ MPa w (P 0 6) H ∧ MKp w (P 0 6) K ∧ MSg w Q
def AG (T : List Int) (P : Pg) (S : Sc) (f : Int) (H : Hs) (K : Kp) (Q : Sg) : Prop :=
  WP P ∧ WS P S ∧ w32 f = f ∧ (T.length ≤ 120 ∧ ∀ x, x ∈ T → 0 ≤ x ∧ x ≤ 255) ∧ QG Q ∧ (∀ i : Nat, i < H.length → WS P (hH H i).1 ∧ w32 (hH H i).2 = (hH H i).2) ∧ (∀ x e, K x = some e → WS P e.1 ∧ w32 e.2 = e.2)
section Z1
variable {d : Nat} {w w' : zW} {j x y : Int} {T : List Int} {P : Pg} {S : Sc} {f : Int} {H : Hs} {K : Kp} {Q : Sg}
theorem CS.at {k : Int} (h : CS w k S) (e : ∀ a, k ≤ a → a ≤ k + 8 → w' a = w a) : CS w' k S := by
  unfold CS
  rw [e (k + 1) (by omega) (by omega), e (k + 2) (by omega) (by omega), e (k + 3) (by omega) (by omega), e (k + 4) (by omega) (by omega), e (k + 5) (by omega) (by omega), e (k + 6) (by omega) (by omega), e (k + 7) (by omega) (by omega), e (k + 8) (by omega) (by omega), e k (by omega) (by omega)]
  exact h
theorem CX0.at (h : CX0 w T) (e : w' 0 1 = w 0 1) (e1 : w' 1 = w 1) : CX0 w' T := by
  unfold CX0
  rw [e, e1]
  exact h
theorem CSg.at (h : CSg w Q) (e : ∀ a, 38 ≤ a → a ≤ 40 → w' a = w a) : CSg w' Q := by
  unfold CSg
  rw [e 38 (by omega) (by omega), e 39 (by omega) (by omega), e 40 (by omega) (by omega)]
  exact h
theorem CKp.at (h : CKp w K) (e : ∀ a, 35 ≤ a → a ≤ 37 → w' a = w a) : CKp w' K := by
  unfold CKp
  rw [e 35 (by omega) (by omega), e 36 (by omega) (by omega), e 37 (by omega) (by omega)]
  exact h
theorem TO.at (h : TO w j P) (e : ∀ a, j ≤ a → a ≤ j + 6 → w' a = w a) : TO w' j P := fun a h0 h1 i => by
  rw [e (j + a) (by omega) (by omega)]
  exact h a h0 h1 i
theorem KS.at (h : KS w P S ∨ w 41 7 = 1) (e : ∀ a, 41 ≤ a → a ≤ 66 → w' a = w a) : KS w' P S ∨ w' 41 7 = 1 := by
  rcases h with ⟨h1, h2, h3⟩ | h
  · refine Or.inl ⟨by rw [e 41 (by omega) (by omega)]; exact h1, h2.at (fun a _ => ?_) (by rw [e 41 (by omega) (by omega)]) (by rw [e 41 (by omega) (by omega)]), fun hl => ?_⟩
    · sorry
    · sorry
  · exact Or.inr (by rw [e 41 (by omega) (by omega)]; exact h)
end Z1
