/-! THE MATHEMATICS OF SCENES. A program P: P 0 6 THREADS, P 1 VALUES, P 2 RANKS, P 3 lengths, P 4 letters, P 5 first, P 6 second numbers (5 * t + i).
A scene S: S.1 by places 0.. VALUES, 3.. OWNERS (0 none, t + 1), 6.. DEAD, 9.. how far, 13.. how (0 AWAKE, 1 + p ASLEEP, 4 + p WAITS, 7 DONE), 17.. between; S.2 THE ROW. -/
abbrev Pg : Type := Int → Int → Int
abbrev Sc : Type := (Int → Int) × List Int
def su (s : Int → Int) (i x : Int) : Int → Int := fun j => if j = i then x else s j
theorem su_self (s : Int → Int) (i x : Int) : su s i x i = x := if_pos rfl
theorem su_ne (s : Int → Int) {i x j : Int} (h : j ≠ i) : su s i x j = s j := if_neg h
def sGo (P : Pg) (t : Int) (S : Sc) : Sc := (su (su (su S.1 (9 + t) (S.1 (9 + t) + 1)) (17 + t) 0) (13 + t) (if S.1 (9 + t) + 1 < P 3 t then 0 else 7), S.2)
def sJn (t h : Int) (S : Sc) : Sc := (su (su S.1 (17 + t) 0) (13 + t) h, S.2 ++ [t])
def sRl (P : Pg) (t : Int) (S : Sc) : Sc := sGo P t (S.1, S.2.filter (fun x => x ≠ t))
/-- ranks that are lent: one thread, all threads in order, three rounds -/
def sL1 (S : Sc) (l : Int → Int) (t : Int) : Int → Int := if 4 ≤ S.1 (13 + t) ∧ S.1 (13 + t) ≤ 6 ∧ S.1 (S.1 (13 + t) - 1) ≠ 0 then su l (S.1 (S.1 (13 + t) - 1) - 1) (max (l (S.1 (S.1 (13 + t) - 1) - 1)) (l t)) else l
def sL4 (S : Sc) (l : Int → Int) : Int → Int := sL1 S (sL1 S (sL1 S (sL1 S l 0) 1) 2) 3
def sLd (P : Pg) (S : Sc) : Int → Int := sL4 S (sL4 S (sL4 S (P 2)))
/-- who gets a place: of a row, ahead of it h (4: nobody) -/
def sHr (s l : Int → Int) (p : Int) : List Int → Int → Int
  | [], h => h
  | t :: r, h => sHr s l p r (if s (13 + t) = 4 + p ∧ (h = 4 ∨ l h < l t) then t else h)
def sHo (P : Pg) (p : Int) (S : Sc) : Int := sHr S.1 (sLd P S) p S.2 4
/-- handed on; dead or not, it is the caller's to say -/
def sHd (P : Pg) (p : Int) (S : Sc) : Sc := if sHo P p S = 4 then (su S.1 (3 + p) 0, S.2) else sRl P (sHo P p S) (su S.1 (3 + p) (sHo P p S + 1), S.2)
/-- the first asleep at a place, 4: none -/
def sFa (s : Int → Int) (p : Int) : List Int → Int
  | [] => 4
  | t :: r => if s (13 + t) = 1 + p then t else sFa s p r
def sWk (P : Pg) (p : Int) : Nat → Sc → Sc
  | 0, S => S
  | n + 1, S => sWk P p n (if sFa S.1 p S.2 = 4 then S else sRl P (sFa S.1 p S.2) S)
def sMv (P : Pg) (p q : Int) (S : Sc) : Sc := (fun i => if 13 ≤ i ∧ i ≤ 16 ∧ (sWk P p 1 S).1 i = 1 + p then 1 + q else (sWk P p 1 S).1 i, (sWk P p 1 S).2)
/-- the owner of what a thread waits for, 4: none -/
def sAw (S : Sc) (t : Int) : Int := if 4 ≤ S.1 (13 + t) ∧ S.1 (13 + t) ≤ 6 ∧ S.1 (S.1 (13 + t) - 1) ≠ 0 then S.1 (S.1 (13 + t) - 1) - 1 else 4
def sLt (S : Sc) (t : Int) : Nat → Int → Bool
  | 0, _ => false
  | n + 1, o => if o = 4 then false else if o = t then true else sLt S t n (sAw S o)
/-- with how often one was found dead -/
abbrev Sf : Type := Sc × Int
def sLk (P : Pg) (t p : Int) (A : Sf) : Sf :=
  if A.1.1 (3 + p) = 0 then (sGo P t (su (su A.1.1 (3 + p) (t + 1)) (6 + p) 0, A.1.2), w32 (A.2 + A.1.1 (6 + p)))
  else if sLt A.1 t 4 (A.1.1 (3 + p) - 1) = true then (sGo P t A.1, A.2)
  else (sJn t (4 + p) A.1, A.2)
def sDp (P : Pg) (t p : Int) (A : Sf) : Sf :=
  if A.1.1 (3 + p) = t + 1 then
    (if sHo P p A.1 = 4 then ((su (sHd P p A.1).1 (6 + p) 1, (sHd P p A.1).2), A.2) else ((su (sHd P p A.1).1 (6 + p) 0, (sHd P p A.1).2), w32 (A.2 + 1)))
  else A
def sX (P : Pg) (t : Int) (A : Sf) : Sf := sDp P t 2 (sDp P t 1 (sDp P t 0 ((su (sGo P t A.1).1 (13 + t) 7, (sGo P t A.1).2), A.2)))
def sAct (P : Pg) (t : Int) (A : Sf) : Sf :=
  let i := 5 * t + A.1.1 (9 + t)
  let p := P 5 i
  let v := P 6 i
  let c := P 4 i
  if c = 120 then sX P t A
  else if c = 115 then (sGo P t (su A.1.1 p v, A.1.2), A.2)
  else if c = 105 then (sGo P t (su A.1.1 p (if A.1.1 p < 3 then A.1.1 p + 1 else 0), A.1.2), A.2)
  else if c = 119 then (if A.1.1 p = v then (sJn t (1 + p) A.1, A.2) else (sGo P t A.1, A.2))
  else if c = 98 then (if A.1.1 (17 + t) = 1 then (sJn t (1 + p) A.1, A.2) else if A.1.1 p = v then ((su A.1.1 (17 + t) 1, A.1.2), A.2) else (sGo P t A.1, A.2))
  else if c = 107 then (sGo P t (sWk P p v.toNat A.1), A.2)
  else if c = 113 then (sGo P t (sMv P p v A.1), A.2)
  else if c = 108 then sLk P t p A
  else (if A.1.1 (3 + p) = t + 1 then (sGo P t (sHd P p A.1), A.2) else (sGo P t A.1, A.2))
/-- a program as the text may tell it -/
def WP (P : Pg) : Prop := 0 ≤ P 0 6 ∧ P 0 6 ≤ 4 ∧ (∀ p, 0 ≤ p → p < 3 → 0 ≤ P 1 p ∧ P 1 p ≤ 3) ∧
  (∀ t, 0 ≤ t → t < 4 → 0 ≤ P 2 t ∧ P 2 t ≤ 3 ∧ 0 ≤ P 3 t ∧ P 3 t ≤ 5 ∧ (P 0 6 ≤ t → P 3 t = 0)) ∧
  (∀ t i, 0 ≤ t → t < 4 → 0 ≤ i → i < P 3 t → P 4 (5 * t + i) = 120 ∨ (0 ≤ P 5 (5 * t + i) ∧ P 5 (5 * t + i) ≤ 2 ∧
    ((P 4 (5 * t + i) = 115 ∨ P 4 (5 * t + i) = 119 ∨ P 4 (5 * t + i) = 98) ∧ 0 ≤ P 6 (5 * t + i) ∧ P 6 (5 * t + i) ≤ 3 ∨ P 4 (5 * t + i) = 105 ∨ P 4 (5 * t + i) = 107 ∧ 1 ≤ P 6 (5 * t + i) ∧ P 6 (5 * t + i) ≤ 3 ∨
      P 4 (5 * t + i) = 113 ∧ 0 ≤ P 6 (5 * t + i) ∧ P 6 (5 * t + i) ≤ 2 ∧ P 6 (5 * t + i) ≠ P 5 (5 * t + i) ∨ P 4 (5 * t + i) = 108 ∨ P 4 (5 * t + i) = 117)))
/-- a scene that can come of it; in WS0 a place may be dead and owned -/
def WS0 (P : Pg) (S : Sc) : Prop :=
  (∀ p, 0 ≤ p → p < 3 → 0 ≤ S.1 p ∧ S.1 p ≤ 3 ∧ 0 ≤ S.1 (3 + p) ∧ S.1 (3 + p) ≤ P 0 6 ∧ (S.1 (6 + p) = 0 ∨ S.1 (6 + p) = 1)) ∧
  (∀ t, 0 ≤ t → t < 4 → 0 ≤ S.1 (9 + t) ∧ S.1 (9 + t) ≤ P 3 t ∧ 0 ≤ S.1 (13 + t) ∧ S.1 (13 + t) ≤ 7 ∧ (S.1 (13 + t) ≠ 7 → S.1 (9 + t) < P 3 t) ∧
    (S.1 (17 + t) = 0 ∨ S.1 (17 + t) = 1 ∧ S.1 (13 + t) = 0 ∧ P 4 (5 * t + S.1 (9 + t)) = 98)) ∧
  S.2.Nodup ∧ (∀ t, t ∈ S.2 ↔ 0 ≤ t ∧ t < 4 ∧ 1 ≤ S.1 (13 + t) ∧ S.1 (13 + t) ≤ 6)
def WS (P : Pg) (S : Sc) : Prop := WS0 P S ∧ ∀ p, 0 ≤ p → p < 3 → S.1 (3 + p) ≠ 0 → S.1 (6 + p) = 0
/-- the class's scene at a base -/
def ownC (x : Int) : Int := if x = 0 then 4 else x - 1
def howC (x : Int) : Int := if x = 0 then 0 else if x ≤ 3 then 1 else if x ≤ 6 then 2 else 3
def whC (x : Int) : Int := if x = 0 then 3 else if x ≤ 3 then x - 1 else if x ≤ 6 then x - 4 else 3
def CS (w : zW) (k : Int) (S : Sc) : Prop :=
  (∀ p, 0 ≤ p → p < 3 → w (k + 1) p = S.1 p ∧ w (k + 2) p = ownC (S.1 (3 + p)) ∧ w (k + 3) p = S.1 (6 + p)) ∧
  (∀ t, 0 ≤ t → t < 4 → w (k + 4) t = S.1 (9 + t) ∧ w (k + 5) t = howC (S.1 (13 + t)) ∧ w (k + 6) t = whC (S.1 (13 + t)) ∧ w (k + 7) t = S.1 (17 + t)) ∧
  w k 9 = S.2.length ∧ (∀ i : Nat, i < S.2.length → w (k + 8) i = S.2.getD i 0)
/-- nothing but the scene's cells has changed -/
def FR (k : Int) (w w' : zW) : Prop := ∀ a, a < k ∨ k + 9 < a → w' a = w a
theorem FR.rf {k : Int} {w : zW} : FR k w w := fun _ _ => rfl
theorem FR.tr {k : Int} {w w' w'' : zW} (h : FR k w w') (h' : FR k w' w'') : FR k w w'' := fun a ha => (h' a ha).trans (h a ha)
theorem FR.up {k a i x : Int} {w w' : zW} (h : FR k w w') (h1 : k ≤ a) (h2 : a ≤ k + 9) : FR k w (zup w' a i x) := fun b hb => (zup_ne (by omega)).trans (h b hb)
/-- the row has at most four -/
theorem row_len {P : Pg} {S : Sc} (h : WS0 P S) : S.2.length ≤ 4 := by
  have h1 := h.2.2.1
  have h2 : S.2 ⊆ [0, 1, 2, 3] := by
    intro t ht
    have := (h.2.2.2 t).mp ht
    have : t = 0 ∨ t = 1 ∨ t = 2 ∨ t = 3 := by omega
    rcases this with rfl | rfl | rfl | rfl <;> decide
  have := List.Nodup.length_le_of_subset h1 h2
  simpa using this
