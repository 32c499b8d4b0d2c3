section Z3
variable {p : Program} {l : Launch} {e : Env} {R : Room} {s : State} {mth : MethodId} {args : Array Value} {below : List Frame} {meth : Method} {c : Code} {D : va_G} {ids : Nat → ClassId} {b : Nat} {sa adV : Nat → Nat} {n0 nE d m : Nat} {Q : State → Prop} {pc : Nat} {lv st : List zV} {g : Nat} {w : zW}
variable {H : Heap} {locs : List Loc}
theorem zws_at {g : Nat} {w : zW} {a : Nat} (h : a < g) : (zws ids b sa g w)[a]? = some (b + a, zE ids b sa (zsh a) (w a)) := by
  unfold zws
  rw [List.getElem?_map, List.getElem?_range h]
  rfl
theorem zP_iff {g : Nat} {w : zW} : va_P D vwCl (zws ids b sa g w) H ↔ ∀ a : Nat, a < g → va_at D vwCl (b + a, zE ids b sa (zsh a) (w a)) H := by
  constructor
  · intro h a ha
    exact h a _ (zws_at ha)
  · intro h k q hq
    have hk : k < g := by
      have := (List.getElem?_eq_some_iff.mp hq).1
      simpa [zws] using this
    rw [zws_at hk] at hq
    cases hq
    exact h k hk
theorem zE_obj {sh : Nat × Nat} {f : Int → Int} (h : sh.1 < 9) : zE ids b sa sh f = .inr (sh.1, (List.range sh.2).map (fun j : Nat => zcv b sa (ztg sh.1 j, f j))) := by
  unfold zE
  rw [if_neg (by omega), if_neg (by omega), if_neg (by omega)]
theorem zE_20 {n : Nat} {f : Int → Int} : zE ids b sa (20, n) f = .inl (ids 0, n, .inl (fun j => Int32.ofInt (f j))) := rfl
theorem zE_21 {n : Nat} {f : Int → Int} : zE ids b sa (21, n) f = .inl (ids 1, n, .inr (.inl (fun j => Int64.ofInt (f j)))) := rfl
theorem zE_22 {n : Nat} {f : Int → Int} : zE ids b sa (22, n) f = .inl (ids 2, n, .inl (fun j => Int32.ofInt (f j))) := rfl
theorem zE_congr {sh : Nat × Nat} {f f' : Int → Int} (h : ∀ j : Nat, f j = f' j) : zE ids b sa sh f = zE ids b sa sh f' := by
  unfold zE
  simp only [h]
theorem zup_ne {w : zW} {a i x a' : Int} (h : a' ≠ a) : zup w a i x a' = w a' := by
  funext j
  unfold zup
  rw [if_neg (fun e => h e.1)]
theorem zup_at {w : zW} {a i x : Int} : zup w a i x a i = x := by
  unfold zup
  rw [if_pos ⟨rfl, rfl⟩]
theorem zup_at_ne {w : zW} {a i x j : Int} (h : j ≠ i) : zup w a i x a j = w a j := by
  unfold zup
  rw [if_neg (fun e => h e.2)]
theorem zok.up {g : Nat} {w : zW} {a i x : Int} (h : zok g w) (hx : ∀ (a' j : Nat), (a' : Int) = a → (j : Int) = i → a' < g → j < (zsh a).2 → zin (zkt (zsh a).1 j, x)) : zok g (zup w a i x) := by
  intro a' ha' j hj
  by_cases e : (a' : Int) = a
  · by_cases e2 : (j : Int) = i
    · rw [e, e2, zup_at]
      rw [e] at hj
      exact hx a' j e e2 ha' hj
    · rw [e, zup_at_ne e2, ← e]
      exact h a' ha' j hj
  · rw [zup_ne e]
    exact h a' ha' j hj
/-- a cell of the world is written -/
theorem zRep.put {lk : Bool} {a i x : Int} {k : Nat} {H1 : Heap} (hR : zRep D ids b sa s lk H locs g w) (h0 : 0 ≤ a) (hg : a < g) (hat : va_at D vwCl (b + a.toNat, zE ids b sa (zsh a) (zup w a i x a)) H1) (z : H1.size = H.size) (oq : ∀ q : Nat, q ≠ b + a.toNat → H1[q]? = H[q]?)
    (hok : zok g (zup w a i x)) (hlk : lk = true → zLk (zup w a i x)) : zRep D ids b sa s lk H1 (locs ++ [⟨b + a.toNat, k⟩]) g (zup w a i x) := by
  obtain ⟨hP, h1, h2, h3, h4, h5, h6, h7⟩ := hR
  refine ⟨zP_iff.mpr fun a' ha' => ?_, by rw [z]; exact h1, by rw [z]; exact h2, h3, fun q hq => ?_, fun q hq => ?_, hok, fun e => ⟨(h7 e).1, hlk e⟩⟩
  · by_cases e : (a' : Int) = a
    · subst e
      exact hat
    · rw [zup_ne e]
      exact (zP_iff.mp hP a' ha').kept (oq (b + a') (by omega))
  · rw [oq q (by omega)]
    exact h4 q hq
  · rcases List.mem_append.mp hq with h | h
    · exact h5 q h
    · rw [List.mem_singleton.mp h]
      show b ≤ b + a.toNat
      omega
theorem zidx {i : Int} {n : Nat} (h0 : 0 ≤ i) (h1 : i < n) (hn : n < 10000) : vp_in (Int32.ofInt i) n ∧ (Int32.ofInt i).toNatClampNeg = i.toNat := by
  have e : (Int32.ofInt i).toNatClampNeg = i.toNat := Int32.toNatClampNeg_ofInt_of_le (by omega) (by omega)
  refine ⟨?_, e⟩
  unfold vp_in
  rw [e]
  rintro (h | h)
  · rw [Int32.lt_iff_toInt_lt, zi_to (zin_small (by omega) (by omega))] at h
    rw [Int32.toInt_zero] at h
    omega
  · omega
theorem zsh_n {a : Int} {g : Nat} (h0 : 0 ≤ a) (hg : (zsh a).1 ≠ 99) : a < zN := by
  by_cases h : a < (zN : Int)
  · exact h
  · exfalso
    apply hg
    have : a = ((a.toNat : Nat) : Int) := (Int.toNat_of_nonneg h0).symm
    rw [this, zsh_big (by omega)]
theorem zsh_lt {a : Int} (h0 : 0 ≤ a) (hg : (zsh a).1 ≠ 99) : (zsh a).2 < 10000 := by
  have h := zsh_n (g := 0) h0 hg
  have := zsh_len a.toNat (by omega)
  rwa [Int.toNat_of_nonneg h0] at this
theorem zPat {a : Int} (hR : zRep D ids b sa s (zlm m) H locs g w) (h0 : 0 ≤ a) (hg : a < g) : (zws ids b sa g w)[a.toNat]? = some (b + a.toNat, zE ids b sa (zsh a) (w a)) := by
  rw [zws_at (by omega), Int.toNat_of_nonneg h0]
theorem zok_at {a i : Int} (h : zok g w) (h0 : 0 ≤ a) (hg : a < g) (hi : 0 ≤ i) (hn : i < (zsh a).2) : zin (zkt (zsh a).1 i.toNat, w a i) := by
  have h1 := h a.toNat (by omega) i.toNat (by rw [Int.toNat_of_nonneg h0]; omega)
  rwa [Int.toNat_of_nonneg h0, Int.toNat_of_nonneg hi] at h1
theorem zshE {a : Int} {k : Nat} (h : (zsh a).1 = k) : zsh a = (k, (zsh a).2) := by rw [← h]
theorem z_iaload (C : zCx p R s mth args meth c D ids b sa adV n0 nE d m) {a i v : Int} (h : zald 20 a i g w = some v) (hd : decode (zby m) pc = .ok (.iaload, 1)) (kk : zWW p l e R s mth args below meth c D ids b sa n0 m Q (pc + 1) lv ((0, v) :: st) g w) : zWW p l e R s mth args below meth c D ids b sa n0 m Q pc lv ((0, i) :: (2, a) :: st) g w := by
  unfold zald at h
  split at h
  next hc =>
    cases h
    obtain ⟨h0, hg, hk, hi0, hi1⟩ := hc
    intro H locs ls hR hL hS hn
    obtain ⟨hin, hcl⟩ := zidx hi0 hi1 (zsh_lt h0 (by rw [hk]; decide))
    have he := zPat hR h0 hg
    rw [zshE hk, zE_20] at he
    have hz := zok_at hR.2.2.2.2.2.2.1 h0 hg hi0 hi1
    rw [hk] at hz
    rw [List.map_cons, List.map_cons, zcv_ref h0]
    refine va_iald (i := Int32.ofInt i) C.1 C.2.1 C.2.2.2.2.2.2.2.2.1.1 hR.1 a.toNat 0 he rfl hin hd ?_
    rw [hcl, Int.toNat_of_nonneg hi0]
    exact kk H locs ls hR hL (hS.tail.tail.cons t4 hz) hn
  next => cases h
theorem z_laload (C : zCx p R s mth args meth c D ids b sa adV n0 nE d m) {a i v : Int} (h : zald 21 a i g w = some v) (hd : decode (zby m) pc = .ok (.laload, 1)) (kk : zWW p l e R s mth args below meth c D ids b sa n0 m Q (pc + 1) lv ((1, v) :: st) g w) : zWW p l e R s mth args below meth c D ids b sa n0 m Q pc lv ((0, i) :: (2, a) :: st) g w := by
  unfold zald at h
  split at h
  next hc =>
    cases h
    obtain ⟨h0, hg, hk, hi0, hi1⟩ := hc
    intro H locs ls hR hL hS hn
    obtain ⟨hin, hcl⟩ := zidx hi0 hi1 (zsh_lt h0 (by rw [hk]; decide))
    have he := zPat hR h0 hg
    rw [zshE hk, zE_21] at he
    have hz := zok_at hR.2.2.2.2.2.2.1 h0 hg hi0 hi1
    rw [hk] at hz
    rw [List.map_cons, List.map_cons, zcv_ref h0]
    refine va_lald (i := Int32.ofInt i) C.1 C.2.1 C.2.2.2.2.2.2.2.2.1.1 hR.1 a.toNat 1 he rfl hin hd ?_
    rw [hcl, Int.toNat_of_nonneg hi0]
    exact kk H locs ls hR hL (hS.tail.tail.cons t4 hz) hn
  next => cases h
theorem z_baload (C : zCx p R s mth args meth c D ids b sa adV n0 nE d m) {a i v : Int} (h : zald 22 a i g w = some v) (hd : decode (zby m) pc = .ok (.baload, 1)) (kk : zWW p l e R s mth args below meth c D ids b sa n0 m Q (pc + 1) lv ((0, v) :: st) g w) : zWW p l e R s mth args below meth c D ids b sa n0 m Q pc lv ((0, i) :: (2, a) :: st) g w := by
  unfold zald at h
  split at h
  next hc =>
    cases h
    obtain ⟨h0, hg, hk, hi0, hi1⟩ := hc
    intro H locs ls hR hL hS hn
    obtain ⟨hin, hcl⟩ := zidx hi0 hi1 (zsh_lt h0 (by rw [hk]; decide))
    have he := zPat hR h0 hg
    rw [zshE hk, zE_22] at he
    have hz := zok_at hR.2.2.2.2.2.2.1 h0 hg hi0 hi1
    rw [hk] at hz
    rw [List.map_cons, List.map_cons, zcv_ref h0]
    refine va_zald (i := Int32.ofInt i) C.1 C.2.1 C.2.2.2.2.2.2.2.2.1.1 hR.1 a.toNat 2 he rfl hin hd ?_
    rw [hcl, Int.toNat_of_nonneg hi0]
    exact kk H locs ls hR hL (hS.tail.tail.cons t4 hz) hn
  next => cases h
theorem z_alen (C : zCx p R s mth args meth c D ids b sa adV n0 nE d m) {a : Int} (h : 0 ≤ a ∧ a < g ∧ 20 ≤ (zsh a).1 ∧ (zsh a).1 ≤ 22) (hd : decode (zby m) pc = .ok (.arraylength, 1)) (kk : zWW p l e R s mth args below meth c D ids b sa n0 m Q (pc + 1) lv ((0, ((zsh a).2 : Int)) :: st) g w) : zWW p l e R s mth args below meth c D ids b sa n0 m Q pc lv ((2, a) :: st) g w := by
  obtain ⟨h0, hg, hk1, hk2⟩ := h
  intro H locs ls hR hL hS hn
  have he := zPat hR h0 hg
  have hl := zsh_lt h0 (by omega)
  have k := kk H locs ls hR hL (hS.tail.cons t4 (zin_small (by omega) (by omega))) hn
  have ev : Int32.ofNat (zsh a).2 = Int32.ofInt ((zsh a).2 : Int) := Int32.ofInt_eq_ofNat.symm
  rw [List.map_cons, zcv_ref h0]
  rcases (show (zsh a).1 = 20 ∨ (zsh a).1 = 21 ∨ (zsh a).1 = 22 by omega) with e | e | e
  · rw [zshE e, zE_20] at he
    exact va_alen C.1 C.2.1 C.2.2.2.2.2.2.2.2.1.1 hR.1 a.toNat 0 he rfl ev hd k
  · rw [zshE e, zE_21] at he
    exact va_alen C.1 C.2.1 C.2.2.2.2.2.2.2.2.1.1 hR.1 a.toNat 1 he rfl ev hd k
  · rw [zshE e, zE_22] at he
    exact va_alen C.1 C.2.1 C.2.2.2.2.2.2.2.2.1.1 hR.1 a.toNat 2 he rfl ev hd k
theorem zupI {a i x : Int} (hi0 : 0 ≤ i) : (fun j : Nat => Int32.ofInt (zup w a i x a j)) = upd (fun j : Nat => Int32.ofInt (w a j)) i.toNat (Int32.ofInt x) := by
  funext j
  unfold upd
  by_cases e : j = i.toNat
  · rw [if_pos e, show (j : Int) = i by omega, zup_at]
  · rw [if_neg e, zup_at_ne (by omega)]
theorem zupL {a i x : Int} (hi0 : 0 ≤ i) : (fun j : Nat => Int64.ofInt (zup w a i x a j)) = vp_updL (fun j : Nat => Int64.ofInt (w a j)) i.toNat (Int64.ofInt x) := by
  funext j
  unfold vp_updL
  by_cases e : j = i.toNat
  · rw [if_pos e, show (j : Int) = i by omega, zup_at]
  · rw [if_neg e, zup_at_ne (by omega)]
theorem zLKl_obj : ∀ q ∈ zLKl, (zsh q.1).1 < 9 := by decide +kernel
theorem zLk.arr {a i x : Int} (h : zLk w) (hk : 9 ≤ (zsh a).1) : zLk (zup w a i x) := by
  intro q hq
  have := zLKl_obj q hq
  rw [zup_ne (fun e => by rw [e] at this; omega)]
  exact h q hq
theorem updV_int (f : Nat → Int32) (k : Nat) (x : Int32) : updV (fun j => Value.int (f j)) k (.int x) = fun j => .int (upd f k x j) := by
  funext j
  unfold updV upd
  split <;> rfl
theorem updV_long (f : Nat → Int64) (k : Nat) (x : Int64) : updV (fun j => Value.long (f j)) k (.long x) = fun j => .long (vp_updL f k x j) := by
  funext j
  unfold updV vp_updL
  split <;> rfl
theorem z_iastore (C : zCx p R s mth args meth c D ids b sa adV n0 nE d m) {a i x : Int} {w' : zW} (h : zast 20 a i x g w = some w') (hd : decode (zby m) pc = .ok (.iastore, 1)) (kk : zWW p l e R s mth args below meth c D ids b sa n0 m Q (pc + 1) lv st g w') : zWW p l e R s mth args below meth c D ids b sa n0 m Q pc lv ((0, x) :: (0, i) :: (2, a) :: st) g w := by
  unfold zast at h
  split at h
  next hc =>
    cases h
    obtain ⟨h0, hg, hk, hi0, hi1⟩ := hc
    intro H locs ls hR hL hS hn
    obtain ⟨hin, hcl⟩ := zidx hi0 hi1 (zsh_lt h0 (by rw [hk]; decide))
    have he := hR.1 _ _ (zPat hR h0 hg)
    rw [zshE hk, zE_20] at he
    rw [List.map_cons, List.map_cons, List.map_cons, zcv_ref h0]
    refine W.iast (x := Int32.ofInt x) (j := Int32.ofInt i) C.1 C.2.1 he ((C.2.2.2.2.2.2.2.2.1.1.2 0 _ rfl).1 (zsh a).2 (fun j : Nat => .int (Int32.ofInt (w a j)))) (fun q => by cases q) (by show ¬ (_ < 0 ∨ (arrV _ _ _).slots.size ≤ _); rw [arrV_size]; exact hin) rfl rfl hd fun H1 e z oq => ?_
    refine kk H1 _ ls (hR.put h0 hg ?_ z oq (hR.2.2.2.2.2.2.1.up fun a' j e1 e2 _ _ => by rw [hk]; exact hS.head) (fun e => ((hR.2.2.2.2.2.2.2 e).2).arr (by omega))) hL hS.tail.tail.tail hn
    rw [zshE hk, zE_20, zupI hi0]
    show H1[_]? = some (vp_cell _ _)
    rw [e, hcl, vp_cell_i, vp_cell_i, arrV_store, updV_int]
  next => cases h
theorem z_lastore (C : zCx p R s mth args meth c D ids b sa adV n0 nE d m) {a i x : Int} {w' : zW} (h : zast 21 a i x g w = some w') (hd : decode (zby m) pc = .ok (.lastore, 1)) (kk : zWW p l e R s mth args below meth c D ids b sa n0 m Q (pc + 1) lv st g w') : zWW p l e R s mth args below meth c D ids b sa n0 m Q pc lv ((1, x) :: (0, i) :: (2, a) :: st) g w := by
  unfold zast at h
  split at h
  next hc =>
    cases h
    obtain ⟨h0, hg, hk, hi0, hi1⟩ := hc
    intro H locs ls hR hL hS hn
    obtain ⟨hin, hcl⟩ := zidx hi0 hi1 (zsh_lt h0 (by rw [hk]; decide))
    have he := hR.1 _ _ (zPat hR h0 hg)
    rw [zshE hk, zE_21] at he
    rw [List.map_cons, List.map_cons, List.map_cons, zcv_ref h0]
    refine W.last (x := Int64.ofInt x) (j := Int32.ofInt i) C.1 C.2.1 he ((C.2.2.2.2.2.2.2.2.1.1.2 1 _ rfl).1 (zsh a).2 (fun j : Nat => .long (Int64.ofInt (w a j)))) (fun q => by cases q) (by show ¬ (_ < 0 ∨ (arrV _ _ _).slots.size ≤ _); rw [arrV_size]; exact hin) rfl rfl hd fun H1 e z oq => ?_
    refine kk H1 _ ls (hR.put h0 hg ?_ z oq (hR.2.2.2.2.2.2.1.up fun a' j e1 e2 _ _ => by rw [hk]; exact hS.head) (fun e => ((hR.2.2.2.2.2.2.2 e).2).arr (by omega))) hL hS.tail.tail.tail hn
    rw [zshE hk, zE_21, zupL hi0]
    show H1[_]? = some (vp_cell _ _)
    rw [e, hcl, vp_cell_l, vp_cell_l, arrV_store, updV_long]
  next => cases h
theorem znar_bool {x : Int} (hx : x = 0 ∨ x = 1) : narrow .boolean (.int (Int32.ofInt x)) = .int (Int32.ofInt x) ∧ fits .boolean (.int (Int32.ofInt x)) = true := by
  rcases hx with rfl | rfl <;> exact ⟨by decide, by decide⟩
theorem z_bastore (C : zCx p R s mth args meth c D ids b sa adV n0 nE d m) {a i x : Int} {w' : zW} (hx : x = 0 ∨ x = 1) (h : zast 22 a i x g w = some w') (hd : decode (zby m) pc = .ok (.bastore, 1)) (kk : zWW p l e R s mth args below meth c D ids b sa n0 m Q (pc + 1) lv st g w') : zWW p l e R s mth args below meth c D ids b sa n0 m Q pc lv ((0, x) :: (0, i) :: (2, a) :: st) g w := by
  unfold zast at h
  split at h
  next hc =>
    cases h
    obtain ⟨h0, hg, hk, hi0, hi1⟩ := hc
    intro H locs ls hR hL hS hn
    obtain ⟨hin, hcl⟩ := zidx hi0 hi1 (zsh_lt h0 (by rw [hk]; decide))
    have he := hR.1 _ _ (zPat hR h0 hg)
    rw [zshE hk, zE_22] at he
    rw [List.map_cons, List.map_cons, List.map_cons, zcv_ref h0]
    refine W.zast (x := Int32.ofInt x) (j := Int32.ofInt i) C.1 C.2.1 he ((C.2.2.2.2.2.2.2.2.1.1.2 2 _ rfl).1 (zsh a).2 (fun j : Nat => .int (Int32.ofInt (w a j)))) (fun q => by cases q) (by show ¬ (_ < 0 ∨ (arrV _ _ _).slots.size ≤ _); rw [arrV_size]; exact hin) rfl rfl hd fun H1 e z oq => ?_
    refine kk H1 _ ls (hR.put h0 hg ?_ z oq (hR.2.2.2.2.2.2.1.up fun a' j e1 e2 _ _ => by rw [hk]; exact hS.head) (fun e => ((hR.2.2.2.2.2.2.2 e).2).arr (by omega))) hL hS.tail.tail.tail hn
    rw [zshE hk, zE_22, zupI hi0]
    show H1[_]? = some (vp_cell _ _)
    rw [e, hcl, (znar_bool hx).1, vp_cell_i, vp_cell_i, arrV_store, updV_int]
  next => cases h
end Z3
