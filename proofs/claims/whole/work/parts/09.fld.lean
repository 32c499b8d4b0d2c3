section Z4
variable {p : Program} {l : Launch} {e : Env} {R : Room} {s : State} {mth : MethodId} {args : Array Value} {below : List Frame} {meth : Method} {c : Code} {D : va_G} {ids : Nat → ClassId} {b : Nat} {sa adV : Nat → Nat} {n0 nE d m : Nat} {Q : State → Prop} {pc : Nat} {lv st : List zV} {g : Nat} {w : zW}
variable {H : Heap} {locs : List Loc}
theorem zS_of (hR : zRep D ids b sa s (zlm m) H locs g w) : va_S (fun q => b ≤ q) s.heap H locs := ⟨hR.2.2.1, fun q _ h => hR.2.2.2.2.1 q (Nat.not_le.mp h), hR.2.2.2.2.2.1⟩
theorem zcn_lt (h : (zsh (0 : Int)).1 = 0 ∨ True) {k : Nat} {q : Nat × Nat} (hl : (zFL (zcn m)).lookup k = some q) : zcn m < 9 := by
  by_cases hc : zcn m < 9
  · exact hc
  · exfalso
    have : zFL (zcn m) = [] := by
      unfold zFL
      split <;> first | omega | rfl
    rw [this] at hl
    cases hl
theorem zobj {a : Int} {f : Nat} {cc : Nat} (h0 : 0 ≤ a) (hk : (zsh a).1 = cc) (hc : cc < 9) : (zsh a).2 = zNf cc := by
  have h := zsh_n (g := 0) h0 (by omega)
  have := zsh_obj a.toNat (by omega)
  rw [Int.toNat_of_nonneg h0, hk] at this
  exact this hc
theorem zfs_at {a : Int} {f n cc : Nat} (hf : f < n) : ((List.range n).map (fun j : Nat => zcv b sa (ztg cc j, w a j)))[f]? = some (zcv b sa (ztg cc f, w a f)) := by
  rw [List.getElem?_map, List.getElem?_range hf]
  rfl
theorem zkt_obj {cc j : Nat} (h : cc < 9) : zkt cc j = ztg cc j := by
  unfold zkt
  rw [if_neg (by omega), if_neg (by omega)]
theorem ztg4 (cc j : Nat) : ztg cc j < 4 := by
  unfold ztg
  split <;> decide
theorem z_getf (C : zCx p R s mth args meth c D ids b sa adV n0 nE d m) {a : Int} {k : Nat} {v : zV} (h : zget m k a g w = some v) (hd : decode (zby m) pc = .ok (.getfield k, 3)) (kk : zWW p l e R s mth args below meth c D ids b sa n0 m Q (pc + 3) lv (v :: st) g w) : zWW p l e R s mth args below meth c D ids b sa n0 m Q pc lv ((2, a) :: st) g w := by
  unfold zget at h
  split at h
  next => cases h
  next cc f hl =>
    split at h
    next hc =>
      obtain ⟨h0, hg, hk, hf⟩ := hc
      intro H locs ls hR hL hS hn
      have hcm := zcn_lt (Or.inr trivial) hl
      obtain ⟨hw, hc9'⟩ := zfl_ok (zcn m) hcm _ (z_look hl)
      have hc9 : cc < 9 := hc9'
      have hn2 := zobj (f := f) h0 hk hc9
      have he := zPat hR h0 hg
      rw [zE_obj (by omega), hk, hn2] at he
      have hz := zok_at hR.2.2.2.2.2.2.1 h0 hg (i := f) (by omega) (by omega)
      rw [hk, Int.toNat_natCast, zkt_obj hc9] at hz
      have hv : v = (ztg cc f, w a f) := by
        split at h
        next o hlm hlo =>
          cases h
          have h2 := hR.2.2.2.2.2.2.2 hlm
          have hN := zsh_n (g := 0) h0 (by rw [hk]; omega)
          have hm := z_look hlo
          have h3 := zsh_lk a.toNat (by omega) (f, o) (by rw [Int.toNat_of_nonneg h0, hk]; exact hm)
          have h4 := h2.2 _ h3
          rw [Int.toNat_of_nonneg h0] at h4
          rw [zlk_tag cc hc9 (f, o) hm, h4]
        next => cases h; rfl
      subst hv
      rw [List.map_cons, zcv_ref h0]
      exact va_get C.1 C.2.1 (own := zRn (zcn m)) (ref := (zTt cc f).1) (C := zRn cc) (T := zTt cc) (N := zNf cc) (ci := cc) (index := k) C.2.2.2.2.2.2.2.1 (zuw_ok cc hc9) C.2.2.2.2.2.1 C.2.2.2.2.2.2.2.2.1.1 hR.1 a.toNat he (zcl_at cc hc9) f hf (C.2.2.2.2.2.2.2.1 _ hw) (fun _ h9 => h9) (zfs_at hf) hd
        (kk H locs ls hR hL (hS.tail.cons (ztg4 cc f) hz) hn)
    next => cases h
theorem zfit {cc f : Nat} {v : zV} (hc : cc < 9) (hf : f < zNf cc) (ht : ztg cc f = v.1) (hb : zty cc f = .boolean → v.2 = 0 ∨ v.2 = 1) : narrow (zty cc f) (zcv b sa v) = zcv b sa v ∧ fits (zty cc f) (zcv b sa v) = true := by
  have hg := zty_good cc hc f hf
  obtain ⟨t, x⟩ := v
  unfold ztg at ht
  cases hty : zty cc f with
  | int =>
    rw [hty] at ht
    cases ht
    exact ⟨rfl, rfl⟩
  | boolean =>
    rw [hty] at ht
    cases ht
    exact znar_bool (hb hty)
  | object nm =>
    rw [hty] at ht
    cases ht
    by_cases h0 : x < 0
    · have : zcv b sa (2, x) = .null := if_pos h0
      rw [this]
      exact ⟨rfl, rfl⟩
    · rw [zcv_ref (by omega)]
      exact ⟨rfl, rfl⟩
  | array t =>
    rw [hty] at ht
    cases ht
    by_cases h0 : x < 0
    · have : zcv b sa (2, x) = .null := if_pos h0
      rw [this]
      exact ⟨rfl, rfl⟩
    · rw [zcv_ref (by omega)]
      exact ⟨rfl, rfl⟩
  | _ => rw [hty] at hg; cases hg
theorem zvV {a x : Int} {f cc n : Nat} (hf : f < n) (j : Nat) (hj : j < n) : updV (vp_V ((List.range n).map (fun j : Nat => zcv b sa (ztg cc j, w a j)))) f (zcv b sa (ztg cc f, x)) j = vp_V ((List.range n).map (fun j : Nat => zcv b sa (ztg cc j, zup w a f x a j))) j := by
  unfold updV vp_V
  rw [List.getD_eq_getElem?_getD, List.getD_eq_getElem?_getD, List.getElem?_map, List.getElem?_map, List.getElem?_range hj]
  by_cases e : j = f
  · rw [if_pos e, e]
    show _ = zcv b sa (ztg cc f, zup w a f x a f)
    rw [zup_at]
  · rw [if_neg e]
    show zcv b sa (ztg cc j, w a j) = zcv b sa (ztg cc j, zup w a f x a j)
    rw [zup_at_ne (by omega)]
theorem zLKl_lk : ∀ q ∈ zLKl, ∃ f o, zlk (zsh q.1).1 f = some o ∧ q.2.1 = (f : Int) := by
  have h : ∀ q ∈ zLKl, ((zlk (zsh q.1).1 q.2.1.toNat).isSome && decide (0 ≤ q.2.1)) = true := by decide +kernel
  intro q hq
  have h1 := h q hq
  simp only [Bool.and_eq_true, decide_eq_true_eq] at h1
  obtain ⟨o, ho⟩ := Option.isSome_iff_exists.mp h1.1
  exact ⟨q.2.1.toNat, o, ho, (Int.toNat_of_nonneg h1.2).symm⟩
theorem zLk.fld {a x : Int} {f cc : Nat} (h : zLk w) (hk : (zsh a).1 = cc) (hl : zlk cc f = none) : zLk (zup w a f x) := by
  intro q hq
  by_cases e : q.1 = a
  · obtain ⟨f', o, h1, h2⟩ := zLKl_lk q hq
    rw [e, zup_at_ne, ← e]
    · exact h q hq
    · intro e2
      rw [h2] at e2
      rw [e, hk, show f' = f by omega, hl] at h1
      cases h1
  · rw [zup_ne e]
    exact h q hq
theorem z_putf (C : zCx p R s mth args meth c D ids b sa adV n0 nE d m) {a : Int} {k : Nat} {v : zV} {w' : zW} (h : zput m k a v g w = some w') (hd : decode (zby m) pc = .ok (.putfield k, 3)) (kk : zWW p l e R s mth args below meth c D ids b sa n0 m Q (pc + 3) lv st g w') : zWW p l e R s mth args below meth c D ids b sa n0 m Q pc lv (v :: (2, a) :: st) g w := by
  unfold zput at h
  split at h
  next => cases h
  next cc f hl =>
    split at h
    next hc =>
      obtain ⟨h0, hg, hk, hf, ht, hbo, hlm, hfi⟩ := hc
      cases h
      intro H locs ls hR hL hS hn
      have hcm := zcn_lt (Or.inr trivial) hl
      obtain ⟨hw, hc9'⟩ := zfl_ok (zcn m) hcm _ (z_look hl)
      have hc9 : cc < 9 := hc9'
      have hn2 := zobj (f := f) h0 hk hc9
      have he := hR.1 _ _ (zPat hR h0 hg)
      rw [zE_obj (by omega), hk, hn2] at he
      obtain ⟨hnar, hfit⟩ := zfit (b := b) (sa := sa) hc9 hf ht hbo
      have hts := C.2.2.2.2.2.2.2.1
      have hown := C.2.2.2.2.2.1
      have hK := C.2.2.2.2.2.2.2.2.1.1
      have hcl := zcl_at cc hc9
      have hin := zuw_ok cc hc9
      have hd0 := zty_ok cc hc9 f hf
      have hap := va_apart (own := zRn (zcn m)) (C := zRn cc) (T := zTt cc) (N := zNf cc) (ci := cc) hts hin (zty cc) (zty_ok cc hc9) (znm_ok cc hc9) hK hcl
      obtain ⟨r, h1, cell, q1, q2, q3, q4⟩ := he
      have hr : r = (zRn cc, zTt cc, zNf cc) := Option.some.inj (h1.symm.trans hcl)
      subst hr
      obtain ⟨hS9, hfc, kC, hkC, hkind⟩ := hK.1 cc _ hcl
      obtain ⟨cf, kf, fi, fd, hi, hsl⟩ := hS9 f hf
      have hlay := hts _ (hin _ (u_in_lay hf))
      have hst := (u_facts hfc hkC (u_lays hts hin hf) hi).1
      have ev : v = (ztg cc f, v.2) := by rw [ht]
      have next : ∀ H' : Heap, H'[b + a.toNat]? = some (cell.setSlot fd.slot (zcv b sa v)) → H'.size = H.size → (∀ q : Nat, q ≠ b + a.toNat → H'[q]? = H[q]?) → W p l e R s mth args below meth c H' (locs ++ [⟨b + a.toNat, fd.slot⟩]) (g - n0) (zsum g - zsum n0) Q (F0 mth (pc + 3) ls (st.map (zcv b sa))) := by
        intro H' e1 e2 e3
        refine kk H' _ ls (hR.put h0 hg ?_ e2 e3 (hR.2.2.2.2.2.2.1.up fun a' j e1 e2 _ hj => ?_) (fun e => ((hR.2.2.2.2.2.2.2 e).2).fld hk (hlm e))) hL hS.tail.tail hn
        · rw [zE_obj (by omega), hk, hn2]
          refine ⟨_, hcl, t_OB.to (V := updV (vp_V ((List.range (zNf cc)).map (fun j : Nat => zcv b sa (ztg cc j, w a j)))) f (zcv b sa v)) ⟨_, e1, q2, q3, ?_⟩ (fun j hj => ?_)⟩
          · rw [hsl]
            exact t_set q4 hap hf _
          · rw [ev]
            exact zvV hf j hj
        · have ej : j = f := by omega
          rw [hk, ej, zkt_obj hc9, ht]
          exact hS.head
      rw [List.map_cons, List.map_cons, zcv_ref h0]
      by_cases hfin : (zTt cc f).2.2.2 = true
      · unfold u_lay at hlay
        rw [if_pos hfin] at hlay
        obtain ⟨hl0, hcm2, hnm⟩ := hfi hfin
        have hcf : mth.cls = cf := by
          obtain ⟨_, _, c', _, _, _, -, -, hf', -, -, -, hown2, -⟩ := Cond.laysFinal_spec hlay
          have e1 : c' = cf := by have := hi.symm.trans hf'; simp at this; exact this.1.symm
          have hdecl : (zTt cc f).1 = zRn (zcn m) := by
            have : ∀ cc, cc < 9 → ∀ f, f < zNf cc → (zTt cc f).1 = zRn cc := by decide +kernel
            rw [this cc hc9 f hf, hcm2]
          rw [hdecl] at hown2
          rw [← e1]; exact Option.some.inj (hown.symm.trans hown2)
        have h6 := u_fits (v := zcv b sa v) hfc hkC hkind (Or.inr hlay) hi hd0 hnar hfit
        exact W.putFinK C.1 C.2.1 hown (hts _ hw) hi hst hcf (by rw [C.2.2.2.2.2.2.1]; exact hnm) (by rw [q2]; exact h6) q1 q3 (by rw [hsl]; exact k2_hasslot (q4 f hf)) rfl rfl hd (fun H' e1 e2 e3 => next H' e1 e2 e3)
      · unfold u_lay at hlay
        rw [if_neg hfin] at hlay
        have h6 := u_store (v := zcv b sa v) hfc hkC hkind hlay hi hd0 hnar hfit
        exact W.putK C.1 C.2.1 (f := fd) ⟨hown, hts _ hw, ⟨_, _, _, hi⟩, hst⟩ (by rw [q2]; exact h6) q1 q3 (by rw [hsl]; exact k2_hasslot (q4 f hf)) rfl rfl hd (fun H' e1 e2 e3 => next H' e1 e2 e3)
    next => cases h
end Z4
