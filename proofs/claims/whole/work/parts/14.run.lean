theorem zst_spec {d m : Nat} {S : zS} {o : zO} (h : zst d m S = some o) : ∃ (i : Jvm.ClassFile.Instr) (n : Nat), decode (zby m) S.1 = .ok (i, n) ∧ zex d m S.1 n S.2.1 S.2.2.1 S.2.2.2.1 S.2.2.2.2 i = some o := by
  unfold zst at h
  split at h
  next i n hd => exact ⟨i, n, hd, h⟩
  next => cases h
theorem zrun_g : ∀ (n d m : Nat) (S : zS) (r : zR), zrun n d m S = some r → S.2.2.2.1 ≤ r.2.1 := by
  intro n
  induction n with
  | zero => intro d m S r h; cases h
  | succ n ih =>
    intro d m S r h
    rw [zrun] at h
    split at h
    next => cases h
    next S' hs =>
      obtain ⟨i, k, -, hx⟩ := zst_spec hs
      exact Nat.le_trans (zex_mono hx) (ih d m S' r h)
    next v hs => cases h; exact Nat.le_refl _
    next m' as rest hs =>
      split at h
      next => cases h
      next d' =>
        split at h
        next => cases h
        next r1 h1 =>
          have a1 := ih _ _ _ _ h1
          have a2 := ih _ _ _ _ h
          exact Nat.le_trans a1 a2
theorem zflat_cons (v : zV) (as : List zV) : zflat (v :: as) = (if v.1 = 1 then [v, (9, 0)] else [v]) ++ zflat as := rfl
theorem zflat_args {b : Nat} {sa : Nat → Nat} : ∀ (as : List zV) (k i : Nat) (v : zV), (zflat as)[i]? = some v → v.1 < 4 → (k + i, zcv b sa v) ∈ lv_args k (as.map (zcv b sa))
  | [], k, i, v, h, _ => by cases h
  | a :: as, k, i, v, h, h4 => by
    rw [zflat_cons] at h
    rw [List.map_cons]
    show _ ∈ (k, zcv b sa a) :: lv_args (if (zcv b sa a).category = 2 then k + 2 else k + 1) (as.map (zcv b sa))
    by_cases h1 : a.1 = 1
    · rw [if_pos h1] at h
      rw [if_pos (zcv_cat1 h1)]
      match i, h with
      | 0, h => cases h; exact List.mem_cons_self
      | 1, h => cases h; exact absurd h4 (by decide)
      | i + 2, h =>
        have := zflat_args (b := b) (sa := sa) as (k + 2) i v h h4
        rw [show k + (i + 2) = k + 2 + i by omega]
        exact List.mem_cons_of_mem _ this
    · rw [if_neg h1] at h
      rw [if_neg (by rw [zcv_cat h1]; decide)]
      match i, h with
      | 0, h => cases h; exact List.mem_cons_self
      | i + 1, h =>
        have := zflat_args (b := b) (sa := sa) as (k + 1) i v h h4
        rw [show k + (i + 1) = k + 1 + i by omega]
        exact List.mem_cons_of_mem _ this
theorem zflat_len {b : Nat} {sa : Nat → Nat} : ∀ (as : List zV), (lg_sl (as.map (zcv b sa))).length = (zflat as).length
  | [] => rfl
  | a :: as => by
    have ih := zflat_len (b := b) (sa := sa) as
    rw [zflat_cons, List.map_cons]
    show ((if (zcv b sa a).category = 2 then [Slot.val (zcv b sa a), .second] else [.val (zcv b sa a)]) ++ lg_sl (as.map (zcv b sa))).length = _
    rw [List.length_append, List.length_append, ih]
    by_cases h1 : a.1 = 1
    · rw [if_pos h1, if_pos (zcv_cat1 h1)]
      rfl
    · rw [if_neg h1, if_neg (by rw [zcv_cat h1]; decide)]
      rfl
theorem zflat_in : ∀ (as : List zV) (i : Nat) (v : zV), zST as → (zflat as)[i]? = some v → v.1 < 4 → zin v
  | [], i, v, _, h, _ => by cases h
  | a :: as, i, v, hs, h, h4 => by
    rw [zflat_cons] at h
    by_cases h1 : a.1 = 1
    · rw [if_pos h1] at h
      match i, h with
      | 0, h => cases h; exact hs.head
      | 1, h => cases h; exact absurd h4 (by decide)
      | i + 2, h => exact zflat_in as i v hs.tail h h4
    · rw [if_neg h1] at h
      match i, h with
      | 0, h => cases h; exact hs.head
      | i + 1, h => exact zflat_in as i v hs.tail h h4
theorem zLV_entry {b : Nat} {sa : Nat → Nat} {as : List zV} {m : Nat} (hs : zST as) (hl : (zflat as).length ≤ zmx m) : zLV b sa ((lg_sl (as.map (zcv b sa)) ++ List.replicate (zmx m - (lg_sl (as.map (zcv b sa))).length) Slot.unset).toArray) (zmx m) (zloc m as) := by
  have h := lv_entry (as.map (zcv b sa)) (n := zmx m) (by rw [zflat_len]; exact hl)
  refine ⟨h.1, h.2.1, ?_, fun i v hi h4 => ?_⟩
  · unfold zloc
    rw [List.length_append, List.length_replicate]
    omega
  · unfold zloc at hi
    by_cases hlt : i < (zflat as).length
    · rw [List.getElem?_append_left hlt] at hi
      have h1 := zflat_args (b := b) (sa := sa) as 0 i v hi h4
      rw [Nat.zero_add] at h1
      exact ⟨h.2.2 _ h1, zflat_in as i v hs hi h4⟩
    · rw [List.getElem?_append_right (by omega)] at hi
      have := List.eq_of_mem_replicate (List.mem_of_getElem? hi)
      rw [this] at h4
      exact absurd h4 (by decide)
def zGood (n : Nat) : Prop := ∀ (p : Program) (l : Launch) (e : Env) (R : Room) (s : State) (mth : MethodId) (args : Array Value) (below : List Frame) (meth : Method) (c : Code) (D : va_G) (ids : Nat → ClassId) (b : Nat) (sa adV : Nat → Nat) (n0 d m : Nat) (S : zS) (r : zR), zrun n d m S = some r → zCx p R s mth args meth c D ids b sa adV n0 r.2.1 d m →
  zWW p l e R s mth args below meth c D ids b sa n0 m (MQ below (zQc D ids b sa (zlm m) r) args s (r.2.1 - n0) (zsum r.2.1 - zsum n0) (fun q => b ≤ q)) S.1 S.2.1 S.2.2.1 S.2.2.2.1 S.2.2.2.2
set_option maxHeartbeats 4000000 in
theorem z_met {n d m : Nat} {as : List zV} {g : Nat} {w : zW} {r : zR} (G : zGood n) (h : zrun n d m (0, zloc m as, [], g, w) = some r) (hm : zmok m) (hf : (zflat as).length ≤ zmx m) : zMt d m as g w r := by
  intro l D ids b sa adV
  refine Met.ofW (cc := zby m) (maxL := zmx m) (ret := zrt m) hm.2.2.2.1 rfl ?_
  intro p e s mth args below meth c s₁ B hml hv
  obtain ⟨rfl, hP, hsz, hok, hlk, hKK, hST⟩ := hv
  have hts := atoms_spec (ws := zwd m) B.pre
  have hown : s.vm.findClass (zyn m).cls = some mth.cls := findClass_of_methodNamed B.named
  have C : zCx p (headSpec (zwd m) (zrm d (r.2.1 - g) (zsum r.2.1 - zsum g))).room s mth (as.map (zcv b sa)).toArray meth c D ids b sa adV g r.2.1 d m :=
    ⟨B.exec, B.bytes, B.returns, B.notSynchronized, hml, by rw [← hm.2.2.2.2.1]; exact hown, (name_of_methodNamed B.named B.method).1, fun x hx => hts x (List.mem_cons_of_mem _ hx), hKK, Nat.le_refl _, Nat.le_refl _, rfl, rfl⟩
  have hW := G p l e _ s mth _ below meth c D ids b sa adV g d m _ r h C s.heap [] _ ⟨hP, hsz, Nat.le_refl _, by rw [hsz]; omega, fun _ _ => rfl, fun _ hx => absurd hx List.not_mem_nil, hok, hlk⟩ (zLV_entry hST hf) (fun _ hx => absurd hx List.not_mem_nil) (Nat.le_refl _)
  rw [lg_entry_eq]
  rw [Nat.sub_self, Nat.sub_self] at hW
  exact hW
set_option maxHeartbeats 4000000 in
theorem z_good : ∀ n, zGood n := by
  intro n
  induction n with
  | zero => intro p l e R s mth args below meth c D ids b sa adV n0 d m S r h; cases h
  | succ n ih =>
    intro p l e R s mth args below meth c D ids b sa adV n0 d m S r h C
    obtain ⟨pc, lv, st, g, w⟩ := S
    rw [zrun] at h
    split at h
    next => cases h
    next S' hs =>
      obtain ⟨i, k, hd, hx⟩ := zst_spec hs
      exact z_step (l := l) (e := e) (below := below) C hd hx (zrun_g _ _ _ _ _ h) _ (ih p l e R s mth args below meth c D ids b sa adV n0 d m S' r h C)
    next v hs =>
      obtain ⟨i, k, hd, hx⟩ := zst_spec hs
      cases h
      exact z_step (l := l) (e := e) (below := below) C hd hx
    next m' as rest hs =>
      obtain ⟨i, k, hd, hx⟩ := zst_spec hs
      split at h
      next => cases h
      next d' =>
        split at h
        next => cases h
        next r1 h1 =>
          obtain ⟨q1, q2, q3⟩ := z_step (l := l) (e := e) (below := below) C hd hx
          have g1 := zrun_g _ _ _ _ _ h1
          have g2 := zrun_g _ _ _ _ _ h
          exact q3 d' r1 rfl g1 g2 (z_met ih h1 q1 q2) _ (ih p l e R s mth args below meth c D ids b sa adV n0 (d' + 1) m _ r h C)
/-- more fuel, the same end -/
theorem zrun_more : ∀ (n d m : Nat) (S : zS) (r : zR), zrun n d m S = some r → zrun (n + 1) d m S = some r := by
  intro n
  induction n with
  | zero => intro d m S r h; cases h
  | succ n ih =>
    intro d m S r h
    rw [zrun] at h ⊢
    split at h
    next => cases h
    next S' hs =>
      exact ih d m S' r h
    next v hs =>
      exact h
    next m' as rest hs =>
      split at h
      next => cases h
      next d' =>
        split at h
        next => cases h
        next r1 h1 =>
          rw [ih _ _ _ _ h1]
          exact ih _ _ _ _ h
theorem zrun_le {n n' d m : Nat} {S : zS} {r : zR} (hn : n ≤ n') (h : zrun n d m S = some r) : zrun n' d m S = some r := by
  induction hn with
  | refl => exact h
  | step _ ih => exact zrun_more _ _ _ _ _ ih
theorem zrun_det {n n' d m : Nat} {S : zS} {r r' : zR} (h : zrun n d m S = some r) (h' : zrun n' d m S = some r') : r = r' := by
  have a := zrun_le (Nat.le_max_left n n') h
  have b := zrun_le (Nat.le_max_right n n') h'
  exact Option.some.inj (a.symm.trans b)
/-- the end of a run -/
noncomputable def Rn (d m pc : Nat) (lv st : List zV) (g : Nat) (w : zW) : Option zR := @dite _ (∃ r, ∃ n, zrun n d m (pc, lv, st, g, w) = some r) (Classical.propDecidable _) (fun h => some (Classical.choose h)) (fun _ => none)
theorem Rn_iff {d m pc : Nat} {lv st : List zV} {g : Nat} {w : zW} {r : zR} : Rn d m pc lv st g w = some r ↔ ∃ n, zrun n d m (pc, lv, st, g, w) = some r := by
  unfold Rn
  constructor
  · intro h
    split at h
    next hx =>
      cases h
      exact Classical.choose_spec hx
    next => cases h
  · intro h
    have hx : ∃ r, ∃ n, zrun n d m (pc, lv, st, g, w) = some r := ⟨r, h⟩
    rw [dif_pos hx]
    obtain ⟨n, hn⟩ := h
    obtain ⟨n', hn'⟩ := Classical.choose_spec hx
    rw [zrun_det hn' hn]
/-- a call -/
noncomputable def Cl (d m : Nat) (as : List zV) (g : Nat) (w : zW) : Option zR := Rn d m 0 (zloc m as) [] g w
noncomputable def zgoR (d m pc : Nat) (lv : List zV) (g : Nat) (w : zW) (o : Option zO) : Option zR := match o with
  | none => none
  | some (.inl S') => Rn d m S'.1 S'.2.1 S'.2.2.1 S'.2.2.2.1 S'.2.2.2.2
  | some (.inr (.inl v)) => some (v, g, w)
  | some (.inr (.inr (m', as, rest))) => match d with
    | 0 => none
    | d' + 1 => (Cl d' m' as g w).bind (fun r => Rn (d' + 1) m (pc + 3) lv (zpush r.1 rest) r.2.1 r.2.2)
theorem Rn_eq (d m pc : Nat) (lv st : List zV) (g : Nat) (w : zW) : Rn d m pc lv st g w = zgoR d m pc lv g w (zst d m (pc, lv, st, g, w)) := by
  apply Option.ext
  intro r
  rw [Rn_iff]
  constructor
  · rintro ⟨n, h⟩
    cases n with
    | zero => cases h
    | succ n =>
      rw [zrun] at h
      split at h
      next => cases h
      next S' hs =>
        rw [hs]
        exact Rn_iff.mpr ⟨n, h⟩
      next v hs =>
        rw [hs]
        exact h
      next m' as rest hs =>
        rw [hs]
        split at h
        next => cases h
        next d' =>
          split at h
          next => cases h
          next r1 h1 =>
            show (Cl d' m' as g w).bind _ = some r
            have : Cl d' m' as g w = some r1 := Rn_iff.mpr ⟨n, h1⟩
            rw [this]
            exact Rn_iff.mpr ⟨n, h⟩
  · intro h
    cases hs : zst d m (pc, lv, st, g, w) with
    | none => rw [hs] at h; cases h
    | some o =>
      rw [hs] at h
      match o, d, hs, h with
      | .inl S', d, hs, h =>
        obtain ⟨n, hn⟩ := Rn_iff.mp h
        refine ⟨n + 1, ?_⟩
        rw [zrun, hs]
        exact hn
      | .inr (.inl v), d, hs, h =>
        refine ⟨1, ?_⟩
        rw [zrun, hs]
        exact h
      | .inr (.inr (m', as, rest)), 0, hs, h => cases h
      | .inr (.inr (m', as, rest)), d' + 1, hs, h =>
        have h : (Cl d' m' as g w).bind (fun r => Rn (d' + 1) m (pc + 3) lv (zpush r.1 rest) r.2.1 r.2.2) = some r := h
        cases hc : Cl d' m' as g w with
        | none => rw [hc] at h; cases h
        | some r1 =>
          rw [hc] at h
          obtain ⟨n1, hn1⟩ := Rn_iff.mp hc
          obtain ⟨n2, hn2⟩ := Rn_iff.mp h
          refine ⟨max n1 n2 + 1, ?_⟩
          rw [zrun, hs]
          dsimp only
          rw [zrun_le (Nat.le_max_left n1 n2) hn1]
          exact zrun_le (Nat.le_max_right n1 n2) hn2
/-- what a run says of the machine -/
theorem Cl_met {d m : Nat} {as : List zV} {g : Nat} {w : zW} {r : zR} (h : Cl d m as g w = some r) (hm : zmok m) (hf : (zflat as).length ≤ zmx m) : zMt d m as g w r := by
  obtain ⟨n, hn⟩ := Rn_iff.mp h
  exact z_met (z_good n) hn hm hf
