def zSok (p : Program) (l : Launch) (e : Env) (R : Room) (s : State) (mth : MethodId) (args : Array Value) (below : List Frame) (meth : Method) (c : Code) (D : va_G) (ids : Nat → ClassId) (b : Nat) (sa : Nat → Nat) (n0 nE d m : Nat) (pc : Nat) (lv st : List zV) (g : Nat) (w : zW) (o : zO) : Prop := match o with
  | .inl S' => S'.2.2.2.1 ≤ nE → ∀ Q, zWW p l e R s mth args below meth c D ids b sa n0 m Q S'.1 S'.2.1 S'.2.2.1 S'.2.2.2.1 S'.2.2.2.2 → zWW p l e R s mth args below meth c D ids b sa n0 m Q pc lv st g w
  | .inr (.inl v) => zWW p l e R s mth args below meth c D ids b sa n0 m (MQ below (zQc D ids b sa (zlm m) (v, g, w)) args s (g - n0) (zsum g - zsum n0) (fun q => b ≤ q)) pc lv st g w
  | .inr (.inr (m', as, rest)) => zmok m' ∧ (zflat as).length ≤ zmx m' ∧ ∀ (d' : Nat) (r : zR), d = d' + 1 → g ≤ r.2.1 → r.2.1 ≤ nE → zMt d' m' as g w r → ∀ Q, zWW p l e R s mth args below meth c D ids b sa n0 m Q (pc + 3) lv (zpush r.1 rest) r.2.1 r.2.2 → zWW p l e R s mth args below meth c D ids b sa n0 m Q pc lv st g w
theorem zex_mono {d m pc n : Nat} {lv st : List zV} {g : Nat} {w : zW} {i : Jvm.ClassFile.Instr} {S' : zS} (h : zex d m pc n lv st g w i = some (.inl S')) : g ≤ S'.2.2.2.1 := by
  have hgo : ∀ {pc : Nat} {lv st : List zV} {g : Nat} {w : zW}, zgo pc lv st g w = some (.inl S') → g ≤ S'.2.2.2.1 := fun h => by
    cases h
    exact Nat.le_refl _
  have hjm : ∀ {pc : Nat} {off : Int} {lv st : List zV} {g : Nat} {w : zW}, zjmp pc off lv st g w = some (.inl S') → g ≤ S'.2.2.2.1 := fun h => by
    unfold zjmp at h
    split at h
    · exact hgo h
    · cases h
  have hca : ∀ {m m' n : Nat} {rv : Bool} {st : List zV} {g : Nat} {w : zW}, zcall m m' n rv st g w = some (.inl S') → g ≤ S'.2.2.2.1 := fun h => by
    unfold zcall at h
    repeat' split at h
    all_goals cases h
  have hin : ∀ {d m k pc : Nat} {lv st : List zV} {g : Nat} {w : zW} {op : Nat}, zinvoke d m k pc lv st g w op = some (.inl S') → g ≤ S'.2.2.2.1 := fun h => by
    unfold zinvoke at h
    repeat' split at h
    all_goals first | exact hgo h | exact hca h | cases h
  cases i <;> simp only [zex] at h <;> (repeat' split at h) <;> first | exact hgo h | exact hjm h | exact hin h | (have := hgo h; omega) | (cases h; done)
section Z7
variable {p : Program} {l : Launch} {e : Env} {R : Room} {s : State} {mth : MethodId} {args : Array Value} {below : List Frame} {meth : Method} {c : Code} {D : va_G} {ids : Nat → ClassId} {b : Nat} {sa adV : Nat → Nat} {n0 nE d m : Nat} {Q : State → Prop} {pc : Nat} {lv st : List zV} {g : Nat} {w : zW}
theorem zcall_spec {m' n : Nat} {recv : Bool} {o : zO} (h : zcall m m' n recv st g w = some o) : zmode m m' g w = true ∧ n ≤ st.length ∧ ((recv = false ∧ zcat (st.drop n) ≤ 8 ∧ (zflat (st.take n).reverse).length ≤ zmx m' ∧ o = .inr (.inr (m', (st.take n).reverse, st.drop n))) ∨
    (recv = true ∧ ∃ (a : Int) (rest : List zV), st.drop n = (2, a) :: rest ∧ 0 ≤ a ∧ a < g ∧ (zsh a).1 = zcn m' ∧ zcat rest ≤ 8 ∧ (zflat ((2, a) :: (st.take n).reverse)).length ≤ zmx m' ∧ o = .inr (.inr (m', (2, a) :: (st.take n).reverse, rest)))) := by
  unfold zcall at h
  split at h
  next hc =>
    refine ⟨hc.1, hc.2, ?_⟩
    split at h
    next rest hr =>
      split at h
      next hz =>
        cases h
        exact Or.inl ⟨rfl, hz.1, hz.2, rfl⟩
      next => cases h
    next a rest hr =>
      split at h
      next hz =>
        cases h
        exact Or.inr ⟨rfl, a, rest, hr, hz.1, hz.2.1, hz.2.2.1, hz.2.2.2.1, hz.2.2.2.2, rfl⟩
      next => cases h
    next => cases h
  next => cases h
theorem zcok_kd {c : Nat} {q : Nat × Nat × Nat × Nat} (h : zcok c q) : q.2.2.1 = 0 ∨ q.2.2.1 = 1 ∨ q.2.2.1 = 2 ∨ q.2.2.1 = 11 ∨ q.2.2.1 = 12 ∨ q.2.2.1 = 20 ∨ q.2.2.1 = 21 ∨ q.2.2.1 = 22 ∨ q.2.2.1 = 23 := by
  unfold zcok at h
  split at h
  all_goals first | omega | exact h.elim
theorem zinv_step (C : zCx p R s mth args meth c D ids b sa adV n0 nE d m) {k op : Nat} {i : Jvm.ClassFile.Instr} {o : zO} (hi : (op = 0 ∧ i = .invokevirtual k) ∨ (op = 1 ∧ i = .invokestatic k) ∨ (op = 2 ∧ i = .invokespecial k)) (h : zinvoke d m k pc lv st g w op = some o) (hd : decode (zby m) pc = .ok (i, 3)) : zSok p l e R s mth args below meth c D ids b sa n0 nE d m pc lv st g w o := by
  unfold zinvoke at h
  split at h
  next => cases h
  next m' kd n hl =>
    have hcm : zcn m < 9 := by
      by_cases hc : zcn m < 9
      · exact hc
      · exfalso
        have : zML (zcn m) = [] := by
          unfold zML
          split <;> first | omega | rfl
        rw [this] at hl
        cases hl
    have hok := zml_ok (zcn m) hcm _ (z_look hl)
    split at h
    next hkd =>
      split at h
      next hop =>
        split at h
        next a rest =>
          split at h
          next ha =>
            cases h
            rcases hi with ⟨h9, -⟩ | ⟨h9, -⟩ | ⟨-, rfl⟩
            · omega
            · omega
            · exact fun _ Q kk => z_obj C hl hkd hop.2 ha hd kk
          next => cases h
        next => cases h
      next => cases h
    next =>
      split at h
      next hkd =>
        split at h
        next hop =>
          split at h
          next y x rest =>
            split at h
            next ha =>
              cases h
              rcases hi with ⟨h9, -⟩ | ⟨-, rfl⟩ | ⟨h9, -⟩
              · omega
              · exact fun hge Q kk => z_rmax C hl hkd hop.2 hge ha hd kk
              · omega
            next => cases h
          next => cases h
        next => cases h
      next =>
        split at h
        next hkd =>
          split at h
          next hop =>
            split at h
            next y x rest =>
              split at h
              next ha =>
                cases h
                rcases hi with ⟨h9, -⟩ | ⟨-, rfl⟩ | ⟨h9, -⟩
                · omega
                · exact fun hge Q kk => z_rmin C hl hkd hop.2 hge ha hd kk
                · omega
              next => cases h
            next => cases h
          next => cases h
        next =>
          split at h
          next hkd =>
            split at h
            next hop =>
              split at h
              next x j rest =>
                split at h
                next ha =>
                  cases h
                  rcases hi with ⟨-, rfl⟩ | ⟨h9, -⟩ | ⟨h9, -⟩
                  · exact fun hge Q kk => z_ridx C hl hkd hop.2 hge ha hd kk
                  · omega
                  · omega
                next => cases h
              next => cases h
            next => cases h
          next n20 n21 n22 n23 =>
            split at h
            next hkop =>
              obtain ⟨hmode, hn, hc⟩ := zcall_spec h
              have hlen : (st.take n).reverse.length = n := by rw [List.length_reverse, List.length_take]; omega
              have hsp : st = (st.take n).reverse.reverse ++ st.drop n := by rw [List.reverse_reverse, List.take_append_drop]
              rcases hi with ⟨rfl, rfl⟩ | ⟨rfl, rfl⟩ | ⟨rfl, rfl⟩
              · rcases hc with ⟨hrc, -⟩ | ⟨-, a, rest, hdr, h0, hag, hk, hz, hfl, rfl⟩
                · cases hrc
                · have hk0 : kd = 0 := by
                    have := zcok_kd hok
                    dsimp only at this
                    omega
                  subst hk0
                  rw [hdr] at hsp
                  exact ⟨hok.1, hfl, fun d' r hdd hge hle hM Q kk => z_call0 C hl hmode hlen hsp h0 hag hk hz hdd hge hle hM hd kk⟩
              · rcases hc with ⟨-, hz, hfl, rfl⟩ | ⟨hrc, -⟩
                · have hk0 : kd = 1 ∨ kd = 11 := by
                    have := zcok_kd hok
                    dsimp only at this
                    omega
                  rcases hk0 with rfl | rfl
                  · exact ⟨hok.1, hfl, fun d' r hdd hge hle hM Q kk => z_call1 C hl hmode hlen hsp hz hdd hge hle hM hd kk⟩
                  · exact ⟨hok.1, hfl, fun d' r hdd hge hle hM Q kk => z_call11 C hl hmode hlen hsp hz hdd hge hle hM hd kk⟩
                · cases hrc
              · rcases hc with ⟨hrc, -⟩ | ⟨-, a, rest, hdr, h0, hag, hk, hz, hfl, rfl⟩
                · cases hrc
                · have hk0 : kd = 2 ∨ kd = 12 := by
                    have := zcok_kd hok
                    dsimp only at this
                    omega
                  rw [hdr] at hsp
                  rcases hk0 with rfl | rfl
                  · exact ⟨hok.1, hfl, fun d' r hdd hge hle hM Q kk => z_call2 C hl hmode hlen hsp h0 hz hdd hge hle hM hd kk⟩
                  · exact ⟨hok.1, hfl, fun d' r hdd hge hle hM Q kk => z_call12 C hl hmode hlen hsp h0 hz hdd hge hle hM hd kk⟩
            next => cases h
theorem zjmp_ok {off : Int} {lv' st' : List zV} {g' : Nat} {w' : zW} {o : zO} (h : zjmp pc off lv' st' g' w' = some o) : ∃ tgt : Nat, (pc : Int) + off = (tgt : Int) ∧ o = .inl (tgt, lv', st', g', w') := by
  unfold zjmp at h
  split at h
  next h0 =>
    cases h
    exact ⟨((pc : Int) + off).toNat, (Int.toNat_of_nonneg h0).symm, rfl⟩
  next => cases h
theorem z_step (C : zCx p R s mth args meth c D ids b sa adV n0 nE d m) {i : Jvm.ClassFile.Instr} {n : Nat} {o : zO} (hd : decode (zby m) pc = .ok (i, n)) (h : zex d m pc n lv st g w i = some o) : zSok p l e R s mth args below meth c D ids b sa n0 nE d m pc lv st g w o := by
  cases i with
  | iconst v =>
    simp only [zex] at h
    split at h
    next hc =>
      obtain ⟨rfl, hv⟩ := hc
      cases h
      exact fun _ Q kk => z_iconst C hv hd kk
    next => cases h
  | bipush v =>
    simp only [zex] at h
    split at h
    next hc =>
      obtain ⟨rfl, hv⟩ := hc
      cases h
      exact fun _ Q kk => z_bipush C hv hd kk
    next => cases h
  | sipush v =>
    simp only [zex] at h
    split at h
    next hc =>
      obtain ⟨rfl, hv⟩ := hc
      cases h
      exact fun _ Q kk => z_sipush C hv hd kk
    next => cases h
  | lconst v =>
    simp only [zex] at h
    split at h
    next hc =>
      subst hc
      cases h
      exact fun _ Q kk => z_lconst C hd kk
    next => cases h
  | ldc2_w k =>
    simp only [zex] at h
    split at h
    next hc =>
      subst hc
      split at h
      next v hl =>
        cases h
        exact fun _ Q kk => z_ldc2 C hl hd kk
      next => cases h
    next => cases h
  | ldc k =>
    simp only [zex] at h
    split at h
    next hc =>
      subst hc
      split at h
      next v hl =>
        cases h
        exact fun _ Q kk => z_ldc C hl hd kk
      next => cases h
    next => cases h
  | iload_n k =>
    simp only [zex] at h
    split at h
    next hc =>
      subst hc
      split at h
      next v hl =>
        cases h
        exact fun _ Q kk => z_iload_n C hl hd kk
      next => cases h
    next => cases h
  | iload k =>
    simp only [zex] at h
    split at h
    next hc =>
      subst hc
      split at h
      next v hl =>
        cases h
        exact fun _ Q kk => z_iload C hl hd kk
      next => cases h
    next => cases h
  | lload_n k =>
    simp only [zex] at h
    split at h
    next hc =>
      subst hc
      split at h
      next v hl =>
        cases h
        exact fun _ Q kk => z_lload_n C hl hd kk
      next => cases h
    next => cases h
  | lload k =>
    simp only [zex] at h
    split at h
    next hc =>
      subst hc
      split at h
      next v hl =>
        cases h
        exact fun _ Q kk => z_lload C hl hd kk
      next => cases h
    next => cases h
  | aload_n k =>
    simp only [zex] at h
    split at h
    next hc =>
      subst hc
      split at h
      next v hl =>
        split at h
        next h0 =>
          cases h
          exact fun _ Q kk => z_aload_n C hl h0 hd kk
        next => cases h
      next => cases h
    next => cases h
  | aload k =>
    simp only [zex] at h
    split at h
    next hc =>
      subst hc
      split at h
      next v hl =>
        split at h
        next h0 =>
          cases h
          exact fun _ Q kk => z_aload C hl h0 hd kk
        next => cases h
      next => cases h
    next => cases h
  | istore_n k =>
    simp only [zex] at h
    split at h
    next hc =>
      subst hc
      split at h
      next x st =>
        split at h
        next lv2 hs =>
          cases h
          exact fun _ Q kk => z_istore_n C hs hd kk
        next => cases h
      next => cases h
    next => cases h
  | istore k =>
    simp only [zex] at h
    split at h
    next hc =>
      subst hc
      split at h
      next x st =>
        split at h
        next lv2 hs =>
          cases h
          exact fun _ Q kk => z_istore C hs hd kk
        next => cases h
      next => cases h
    next => cases h
  | lstore_n k =>
    simp only [zex] at h
    split at h
    next hc =>
      subst hc
      split at h
      next x st =>
        split at h
        next lv2 hs =>
          cases h
          exact fun _ Q kk => z_lstore_n C hs hd kk
        next => cases h
      next => cases h
    next => cases h
  | lstore k =>
    simp only [zex] at h
    split at h
    next hc =>
      subst hc
      split at h
      next x st =>
        split at h
        next lv2 hs =>
          cases h
          exact fun _ Q kk => z_lstore C hs hd kk
        next => cases h
      next => cases h
    next => cases h
  | astore_n k =>
    simp only [zex] at h
    split at h
    next hc =>
      subst hc
      split at h
      next x st =>
        split at h
        next h0 =>
          split at h
          next lv2 hs =>
            cases h
            exact fun _ Q kk => z_astore_n C h0 hs hd kk
          next => cases h
        next => cases h
      next => cases h
    next => cases h
  | astore k =>
    simp only [zex] at h
    split at h
    next hc =>
      subst hc
      split at h
      next x st =>
        split at h
        next h0 =>
          split at h
          next lv2 hs =>
            cases h
            exact fun _ Q kk => z_astore C h0 hs hd kk
          next => cases h
        next => cases h
      next => cases h
    next => cases h
  | iinc k v =>
    simp only [zex] at h
    split at h
    next hc =>
      subst hc
      split at h
      next x hl =>
        split at h
        next lv2 hs =>
          cases h
          exact fun _ Q kk => z_iinc C hl hs hd kk
        next => cases h
      next => cases h
    next => cases h
  | iadd =>
    simp only [zex] at h
    split at h
    next hc =>
      subst hc
      split at h
      next =>
        cases h
        exact fun _ Q kk => z_iadd C hd kk
      next => cases h
    next => cases h
  | isub =>
    simp only [zex] at h
    split at h
    next hc =>
      subst hc
      split at h
      next =>
        cases h
        exact fun _ Q kk => z_isub C hd kk
      next => cases h
    next => cases h
  | imul =>
    simp only [zex] at h
    split at h
    next hc =>
      subst hc
      split at h
      next =>
        cases h
        exact fun _ Q kk => z_imul C hd kk
      next => cases h
    next => cases h
  | iand =>
    simp only [zex] at h
    split at h
    next hc =>
      subst hc
      split at h
      next =>
        cases h
        exact fun _ Q kk => z_iand C hd kk
      next => cases h
    next => cases h
  | ior =>
    simp only [zex] at h
    split at h
    next hc =>
      subst hc
      split at h
      next =>
        cases h
        exact fun _ Q kk => z_ior C hd kk
      next => cases h
    next => cases h
  | ishl =>
    simp only [zex] at h
    split at h
    next hc =>
      subst hc
      split at h
      next =>
        cases h
        exact fun _ Q kk => z_ishl C hd kk
      next => cases h
    next => cases h
  | land =>
    simp only [zex] at h
    split at h
    next hc =>
      subst hc
      split at h
      next =>
        cases h
        exact fun _ Q kk => z_rland C hd kk
      next => cases h
    next => cases h
  | lor =>
    simp only [zex] at h
    split at h
    next hc =>
      subst hc
      split at h
      next =>
        cases h
        exact fun _ Q kk => z_rlor C hd kk
      next => cases h
    next => cases h
  | lmul =>
    simp only [zex] at h
    split at h
    next hc =>
      subst hc
      split at h
      next =>
        cases h
        exact fun _ Q kk => z_rlmul C hd kk
      next => cases h
    next => cases h
  | lsub =>
    simp only [zex] at h
    split at h
    next hc =>
      subst hc
      split at h
      next =>
        cases h
        exact fun _ Q kk => z_rlsub C hd kk
      next => cases h
    next => cases h
  | lshl =>
    simp only [zex] at h
    split at h
    next hc =>
      subst hc
      split at h
      next =>
        cases h
        exact fun _ Q kk => z_rlshl C hd kk
      next => cases h
    next => cases h
  | lshr =>
    simp only [zex] at h
    split at h
    next hc =>
      subst hc
      split at h
      next =>
        cases h
        exact fun _ Q kk => z_rlshr C hd kk
      next => cases h
    next => cases h
  | lushr =>
    simp only [zex] at h
    split at h
    next hc =>
      subst hc
      split at h
      next =>
        cases h
        exact fun _ Q kk => z_rlushr C hd kk
      next => cases h
    next => cases h
  | lcmp =>
    simp only [zex] at h
    split at h
    next hc =>
      subst hc
      split at h
      next =>
        cases h
        exact fun _ Q kk => z_rlcmp C hd kk
      next => cases h
    next => cases h
  | i2l =>
    simp only [zex] at h
    split at h
    next hc =>
      subst hc
      split at h
      next =>
        cases h
        exact fun _ Q kk => z_i2l C hd kk
      next => cases h
    next => cases h
  | l2i =>
    simp only [zex] at h
    split at h
    next hc =>
      subst hc
      split at h
      next =>
        cases h
        exact fun _ Q kk => z_rl2i C hd kk
      next => cases h
    next => cases h
  | i2c =>
    simp only [zex] at h
    split at h
    next hc =>
      subst hc
      split at h
      next =>
        cases h
        exact fun _ Q kk => z_ri2c C hd kk
      next => cases h
    next => cases h
  | idiv =>
    simp only [zex] at h
    split at h
    next hc =>
      subst hc
      split at h
      next =>
        split at h
        next => cases h
        next hy =>
          cases h
          exact fun _ Q kk => z_idiv C hy hd kk
      next => cases h
    next => cases h
  | irem =>
    simp only [zex] at h
    split at h
    next hc =>
      subst hc
      split at h
      next =>
        split at h
        next => cases h
        next hy =>
          cases h
          exact fun _ Q kk => z_irem C hy hd kk
      next => cases h
    next => cases h
  | dup =>
    simp only [zex] at h
    split at h
    next hc =>
      subst hc
      split at h
      next =>
        split at h
        next => cases h
        next hy =>
          cases h
          exact fun _ Q kk => z_dup C hy hd kk
      next => cases h
    next => cases h
  | pop =>
    simp only [zex] at h
    split at h
    next hc =>
      subst hc
      split at h
      next =>
        split at h
        next => cases h
        next hy =>
          cases h
          exact fun _ Q kk => z_pop C hy hd kk
      next => cases h
    next => cases h
  | dup2 =>
    simp only [zex] at h
    split at h
    next hc =>
      subst hc
      split at h
      next =>
        split at h
        next => cases h
        next hy =>
          cases h
          exact fun _ Q kk => z_dup2 C (fun e => hy (Or.inl e)) (fun e => hy (Or.inr e)) hd kk
      next => cases h
    next => cases h
  | ifCond cd off =>
    simp only [zex] at h
    split at h
    next hc =>
      obtain ⟨hc, e0⟩ := hc
      subst hc
      split at h
      next =>
        split at h
        next ht =>
          cases h
          exact fun _ Q kk => z_ifc C (tgt := ((pc : Int) + off).toNat) (Int.toNat_of_nonneg e0).symm hd (fun _ => kk) (fun hf => absurd ht hf)
        next hf =>
          cases h
          exact fun _ Q kk => z_ifc C (tgt := ((pc : Int) + off).toNat) (Int.toNat_of_nonneg e0).symm hd (fun ht => absurd ht hf) (fun _ => kk)
      next => cases h
    next => cases h
  | if_icmp cd off =>
    simp only [zex] at h
    split at h
    next hc =>
      obtain ⟨hc, e0⟩ := hc
      subst hc
      split at h
      next =>
        split at h
        next ht =>
          cases h
          exact fun _ Q kk => z_icmp C (tgt := ((pc : Int) + off).toNat) (Int.toNat_of_nonneg e0).symm hd (fun _ => kk) (fun hf => absurd ht hf)
        next hf =>
          cases h
          exact fun _ Q kk => z_icmp C (tgt := ((pc : Int) + off).toNat) (Int.toNat_of_nonneg e0).symm hd (fun ht => absurd ht hf) (fun _ => kk)
      next => cases h
    next => cases h
  | goto off =>
    simp only [zex] at h
    split at h
    next hc =>
      subst hc
      obtain ⟨tgt, e1, rfl⟩ := zjmp_ok h
      exact fun _ Q kk => z_goto C e1 hd kk
    next => cases h
  | tableswitch df lo hi offs =>
    simp only [zex] at h
    split at h
    next =>
      split at h
      next hx =>
        obtain ⟨tgt, e1, rfl⟩ := zjmp_ok h
        exact fun _ Q kk => z_tabO C hx e1 hd kk
      next hx =>
        split at h
        next off ho =>
          obtain ⟨tgt, e1, rfl⟩ := zjmp_ok h
          exact fun _ Q kk => z_tabI C hx ho e1 hd kk
        next => cases h
    next => cases h
  | lookupswitch df ps =>
    simp only [zex] at h
    split at h
    next =>
      split at h
      next hx =>
        obtain ⟨tgt, e1, rfl⟩ := zjmp_ok h
        exact fun _ Q kk => z_lsw C hx e1 hd kk
      next hx => cases h
    next => cases h
  | getfield k =>
    simp only [zex] at h
    split at h
    next hc =>
      subst hc
      split at h
      next =>
        split at h
        next v hl =>
          cases h
          exact fun _ Q kk => z_getf C hl hd kk
        next => cases h
      next => cases h
    next => cases h
  | putfield k =>
    simp only [zex] at h
    split at h
    next hc =>
      subst hc
      split at h
      next =>
        split at h
        next v hl =>
          cases h
          exact fun _ Q kk => z_putf C hl hd kk
        next => cases h
      next => cases h
    next => cases h
  | iaload =>
    simp only [zex] at h
    split at h
    next hc =>
      subst hc
      split at h
      next =>
        split at h
        next v hl =>
          cases h
          exact fun _ Q kk => z_iaload C hl hd kk
        next => cases h
      next => cases h
    next => cases h
  | laload =>
    simp only [zex] at h
    split at h
    next hc =>
      subst hc
      split at h
      next =>
        split at h
        next v hl =>
          cases h
          exact fun _ Q kk => z_laload C hl hd kk
        next => cases h
      next => cases h
    next => cases h
  | baload =>
    simp only [zex] at h
    split at h
    next hc =>
      subst hc
      split at h
      next =>
        split at h
        next v hl =>
          cases h
          exact fun _ Q kk => z_baload C hl hd kk
        next => cases h
      next => cases h
    next => cases h
  | iastore =>
    simp only [zex] at h
    split at h
    next hc =>
      subst hc
      split at h
      next =>
        split at h
        next v hl =>
          cases h
          exact fun _ Q kk => z_iastore C hl hd kk
        next => cases h
      next => cases h
    next => cases h
  | lastore =>
    simp only [zex] at h
    split at h
    next hc =>
      subst hc
      split at h
      next =>
        split at h
        next v hl =>
          cases h
          exact fun _ Q kk => z_lastore C hl hd kk
        next => cases h
      next => cases h
    next => cases h
  | bastore =>
    simp only [zex] at h
    split at h
    next hc =>
      subst hc
      split at h
      next =>
        split at h
        next hx =>
          split at h
          next v hl =>
            cases h
            exact fun _ Q kk => z_bastore C hx hl hd kk
          next => cases h
        next => cases h
      next => cases h
    next => cases h
  | arraylength =>
    simp only [zex] at h
    split at h
    next hc =>
      subst hc
      split at h
      next =>
        split at h
        next hx =>
          cases h
          exact fun _ Q kk => z_alen C hx hd kk
        next => cases h
      next => cases h
    next => cases h
  | new k =>
    simp only [zex] at h
    split at h
    next hc =>
      subst hc
      split at h
      next c2 hl =>
        split at h
        next hx =>
          cases h
          exact fun hge Q kk => z_newo C hl hx hge hd kk
        next => cases h
      next => cases h
    next => cases h
  | newarray t =>
    simp only [zex] at h
    split at h
    next hc =>
      subst hc
      split at h
      next x st =>
        split at h
        next hx =>
          cases h
          exact fun hge Q kk => z_newarr C rfl hx hge hd kk
        next => cases h
      next => cases h
    next => cases h
  | invokevirtual k =>
    simp only [zex] at h
    split at h
    next hc =>
      subst hc
      exact zinv_step C (Or.inl ⟨rfl, rfl⟩) h hd
    next => cases h
  | invokestatic k =>
    simp only [zex] at h
    split at h
    next hc =>
      subst hc
      exact zinv_step C (Or.inr (Or.inl ⟨rfl, rfl⟩)) h hd
    next => cases h
  | invokespecial k =>
    simp only [zex] at h
    split at h
    next hc =>
      subst hc
      exact zinv_step C (Or.inr (Or.inr ⟨rfl, rfl⟩)) h hd
    next => cases h
  | ireturn =>
    simp only [zex] at h
    split at h
    next hc =>
      subst hc
      split at h
      next =>
        split at h
        next hx =>
          cases h
          exact z_iret C hx hd
        next => cases h
      next => cases h
    next => cases h
  | lreturn =>
    simp only [zex] at h
    split at h
    next hc =>
      subst hc
      split at h
      next =>
        split at h
        next hx =>
          cases h
          exact z_lret C hx hd
        next => cases h
      next => cases h
    next => cases h
  | return_ =>
    simp only [zex] at h
    split at h
    next hc =>
      subst hc
      split at h
      next =>
        split at h
        next hx =>
          cases h
          exact z_vret C hx hd
        next => cases h
      next => cases h
    next => cases h
  | _ => cases h
end Z7
