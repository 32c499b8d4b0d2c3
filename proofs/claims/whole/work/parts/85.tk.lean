/-! THE TEXT: its tokens (kind, where); a number is its own kind, a letter too; -1 the end, -2 what is nothing -/
abbrev Tk : Type := List (Int × Int)
abbrev dg (c : Int) : Prop := 48 ≤ c ∧ c ≤ 57
abbrev is9 (c : Int) : Prop := c = 115 ∨ c = 105 ∨ c = 119 ∨ c = 98 ∨ c = 107 ∨ c = 113 ∨ c = 108 ∨ c = 117 ∨ c = 120
abbrev is13 (c : Int) : Prop := c = 118 ∨ c = 116 ∨ c = 114 ∨ c = 59 ∨ is9 c
def dEF (a : Nat → Int) : Nat → Nat → Nat
  | 0, i => i
  | f + 1, i => if dg (a i) then dEF a f (i + 1) else i
def dE (a : Nat → Int) (n i : Nat) : Nat := dEF a (n - i) i
def kd (c : Int) : Int := if is13 c then c else -2
def tkF (a : Nat → Int) (n : Nat) : Nat → Nat → Tk
  | 0, _ => [(-1, (n : Int))]
  | f + 1, i => if n ≤ i then [(-1, (n : Int))] else if a i = 32 then tkF a n f (i + 1) else if dg (a i) then (if dE a n (i + 1) = i + 1 then a i - 48 else -2, (i : Int)) :: tkF a n f (dE a n (i + 1)) else (kd (a i), (i : Int)) :: tkF a n f (i + 1)
def tk (a : Nat → Int) (n i : Nat) : Tk := tkF a n (n - i) i
section T1
variable {a : Nat → Int} {n i : Nat}
theorem dE_no (h : ¬ (i < n ∧ dg (a i))) : dE a n i = i := by
  unfold dE
  cases e : n - i with
  | zero => rfl
  | succ f =>
    rw [dEF, if_neg (fun z => h ⟨by omega, z⟩)]
theorem dE_yes (h : i < n) (hd : dg (a i)) : dE a n i = dE a n (i + 1) := by
  unfold dE
  rw [show n - i = (n - (i + 1)) + 1 by omega, dEF, if_pos hd]
theorem dEF_in : ∀ (f i : Nat), i ≤ dEF a f i ∧ dEF a f i ≤ i + f
  | 0, i => ⟨Nat.le_refl _, Nat.le_refl _⟩
  | f + 1, i => by
    rw [dEF]
    split
    · have := dEF_in f (i + 1)
      omega
    · omega
theorem dE_in (h : i ≤ n) : i ≤ dE a n i ∧ dE a n i ≤ n := by
  have := dEF_in (a := a) (n - i) i
  unfold dE
  omega
theorem tkF_eq : ∀ (f f' i : Nat), n - i ≤ f → n - i ≤ f' → tkF a n f i = tkF a n f' i
  | 0, 0, _, _, _ => rfl
  | 0, f' + 1, i, h, _ => by rw [tkF, tkF, if_pos (by omega)]
  | f + 1, 0, i, _, h => by rw [tkF, tkF, if_pos (by omega)]
  | f + 1, f' + 1, i, h, h' => by
    rw [tkF, tkF]
    by_cases c : n ≤ i
    · rw [if_pos c, if_pos c]
    · have hd := dE_in (a := a) (n := n) (i := i + 1) (by omega)
      rw [if_neg c, if_neg c, tkF_eq f f' (i + 1) (by omega) (by omega), tkF_eq f f' (dE a n (i + 1)) (by omega) (by omega)]
theorem tk_over (h : n ≤ i) : tk a n i = [(-1, (n : Int))] := by
  unfold tk
  rw [show n - i = 0 by omega]
  rfl
theorem tk_blank (h : i < n) (hb : a i = 32) : tk a n i = tk a n (i + 1) := by
  unfold tk
  rw [show n - i = (n - (i + 1)) + 1 by omega, tkF, if_neg (by omega), if_pos hb]
theorem tk_dig (h : i < n) (hd : dg (a i)) : tk a n i = (if dE a n (i + 1) = i + 1 then a i - 48 else -2, (i : Int)) :: tk a n (dE a n (i + 1)) := by
  have hi := dE_in (a := a) (n := n) (i := i + 1) (by omega)
  unfold tk
  rw [show n - i = (n - (i + 1)) + 1 by omega, tkF, if_neg (by omega), if_neg (by omega), if_pos hd, tkF_eq (n - (i + 1)) (n - dE a n (i + 1)) (dE a n (i + 1)) (by omega) (by omega)]
theorem tk_let (h : i < n) (hb : a i ≠ 32) (hd : ¬ dg (a i)) : tk a n i = (kd (a i), (i : Int)) :: tk a n (i + 1) := by
  unfold tk
  rw [show n - i = (n - (i + 1)) + 1 by omega, tkF, if_neg (by omega), if_neg hb, if_neg hd]
end T1
def hk (L : Tk) : Int := (L.headD (-1, 0)).1
def hs (L : Tk) : Int := (L.headD (-1, 0)).2
/-- a list of tokens: the end and nothing else ends it -/
def gT (n : Nat) : Tk → Prop
  | [] => False
  | [x] => x = (-1, (n : Int))
  | x :: y :: L => x.1 ≠ -1 ∧ -2 ≤ x.1 ∧ x.1 ≤ 120 ∧ 0 ≤ x.2 ∧ x.2 ≤ n ∧ gT n (y :: L)
section T2
variable {n : Nat} {L : Tk} {a : Nat → Int}
theorem gT.cons {x : Int × Int} (h : gT n L) (h1 : x.1 ≠ -1) (h2 : -2 ≤ x.1) (h3 : x.1 ≤ 120) (h4 : 0 ≤ x.2) (h5 : x.2 ≤ n) : gT n (x :: L) := by
  cases L with
  | nil => exact h.elim
  | cons y L => exact ⟨h1, h2, h3, h4, h5, h⟩
theorem gT.ne (h : gT n L) : 0 < L.length := by
  cases L with
  | nil => exact h.elim
  | cons y L => exact Nat.zero_lt_succ _
theorem gT.tl (h : gT n L) (hh : hk L ≠ -1) : gT n L.tail := by
  cases L with
  | nil => exact h.elim
  | cons y L => cases L with
    | nil => exact absurd (by rw [show y = (-1, (n : Int)) from h]; rfl) hh
    | cons z L => exact h.2.2.2.2.2
theorem gT.hk (h : gT n L) : -2 ≤ hk L ∧ hk L ≤ 120 ∧ 0 ≤ hs L ∧ hs L ≤ n := by
  cases L with
  | nil => exact h.elim
  | cons y L => cases L with
    | nil =>
      rw [show y = (-1, (n : Int)) from h]
      show (-2 : Int) ≤ -1 ∧ (-1 : Int) ≤ 120 ∧ (0 : Int) ≤ n ∧ (n : Int) ≤ n
      omega
    | cons z L => exact ⟨h.2.1, h.2.2.1, h.2.2.2.1, h.2.2.2.2.1⟩
theorem kd_in (c : Int) : kd c = -2 ∨ is13 c ∧ kd c = c := by
  unfold kd
  split
  · exact Or.inr ⟨by assumption, rfl⟩
  · exact Or.inl rfl
theorem tkF_g : ∀ (f i : Nat), gT n (tkF a n f i) ∧ (i ≤ n → (tkF a n f i).length ≤ n - i + 1)
  | 0, i => ⟨rfl, fun _ => by simp [tkF]⟩
  | f + 1, i => by
    rw [tkF]
    by_cases c : n ≤ i
    · rw [if_pos c]
      exact ⟨rfl, fun _ => by simp⟩
    rw [if_neg c]
    have h1 := tkF_g f (i + 1)
    by_cases c1 : a i = 32
    · rw [if_pos c1]
      exact ⟨h1.1, fun _ => by have := h1.2 (by omega); omega⟩
    rw [if_neg c1]
    by_cases c2 : dg (a i)
    · rw [if_pos c2]
      have hd := dE_in (a := a) (n := n) (i := i + 1) (by omega)
      have h2 := tkF_g f (dE a n (i + 1))
      refine ⟨h2.1.cons ?_ ?_ ?_ ?_ ?_, fun _ => ?_⟩
      · dsimp only; split <;> omega
      · dsimp only; split <;> omega
      · dsimp only; split <;> omega
      · dsimp only; omega
      · dsimp only; omega
      · have := h2.2 (by omega)
        rw [List.length_cons]
        omega
    · rw [if_neg c2]
      have hk := kd_in (a i)
      refine ⟨h1.1.cons ?_ ?_ ?_ ?_ ?_, fun _ => ?_⟩
      · dsimp only; omega
      · dsimp only; omega
      · dsimp only; omega
      · dsimp only; omega
      · dsimp only; omega
      · have := h1.2 (by omega)
        rw [List.length_cons]
        omega
theorem tk_g (i : Nat) : gT n (tk a n i) := (tkF_g (n - i) i).1
theorem tk_len {i : Nat} (h : i ≤ n) : (tk a n i).length ≤ n - i + 1 := (tkF_g (n - i) i).2 h
end T2
/-- what a token is to the reference: letter, number -/
def TKr (t x k : Int) : Prop := (t < 0 ↔ k = -1) ∧ (∀ c, is13 c → (t = c ↔ k = c)) ∧ (∀ l h, 0 ≤ l → h ≤ 9 → (t = 48 ∧ l ≤ x ∧ x ≤ h ↔ l ≤ k ∧ k ≤ h)) ∧ (0 ≤ k ∧ k ≤ 9 → x = k)
theorem TKr.dig {c : Int} (h : dg c) : TKr 48 (c - 48) (c - 48) := ⟨by omega, fun c' h' => by omega, fun l h _ _ => by omega, fun _ => rfl⟩
theorem TKr.odd : TKr 48 99 (-2) := ⟨by omega, fun c' h' => by omega, fun l h _ _ => by omega, fun _ => by omega⟩
theorem TKr.lett {c : Int} (h0 : 0 ≤ c) (h : ¬ dg c) : TKr c (-9) (kd c) := by
  unfold kd
  split
  · exact ⟨by omega, fun c' h' => Iff.rfl, fun l h _ _ => by omega, fun _ => by omega⟩
  · rename_i h13
    exact ⟨by omega, fun c' h' => ⟨fun z => absurd (z ▸ h') h13, fun z => by omega⟩, fun l h _ _ => by omega, fun _ => by omega⟩
theorem TKr.over : TKr (-1) (-9) (-1) := ⟨by omega, fun c' h' => by omega, fun l h _ _ => by omega, fun _ => by omega⟩
