theorem zmemTB {x : Jvm.Cond} (h : x ∈ lw_tbl) (hg : goodWord x = true) : x ∈ zTB := List.mem_filter.mpr ⟨h, hg⟩
theorem zt1 {x : Jvm.Cond} (i : Nat) (h : tables_1_1[i]? = some x) (hg : goodWord x = true) : x ∈ zTB := zmemTB (List.mem_append_right _ (List.mem_append_left _ (List.mem_of_getElem? h))) hg
theorem zt2 {x : Jvm.Cond} (i : Nat) (h : tables_1_2[i]? = some x) (hg : goodWord x = true) : x ∈ zTB := zmemTB (List.mem_append_right _ (List.mem_append_right _ (List.mem_append_left _ (List.mem_of_getElem? h)))) hg
theorem zt3 {x : Jvm.Cond} (i : Nat) (h : tables_1_3[i]? = some x) (hg : goodWord x = true) : x ∈ zTB := zmemTB (List.mem_append_right _ (List.mem_append_right _ (List.mem_append_right _ (List.mem_append_left _ (List.mem_of_getElem? h))))) hg
theorem zt4 {x : Jvm.Cond} (i : Nat) (h : tables_1_4[i]? = some x) (hg : goodWord x = true) : x ∈ zTB := zmemTB (List.mem_append_right _ (List.mem_append_right _ (List.mem_append_right _ (List.mem_append_right _ (List.mem_append_left _ (List.mem_of_getElem? h)))))) hg
theorem zt5 {x : Jvm.Cond} (i : Nat) (h : tables_1_5[i]? = some x) (hg : goodWord x = true) : x ∈ zTB := zmemTB (List.mem_append_right _ (List.mem_append_right _ (List.mem_append_right _ (List.mem_append_right _ (List.mem_append_right _ (List.mem_of_getElem? h)))))) hg
theorem zts {y : MethodName} (i : Nat) (h : lw_privs[i]?.map (·.1) = some y) : Jvm.Cond.selects y.cls y y ∈ zTB := by
  refine zmemTB (List.mem_append_left _ ?_) rfl
  cases hq : lw_privs[i]? with
  | none => rw [hq] at h; cases h
  | some q =>
    rw [hq] at h
    cases h
    exact List.mem_map.mpr ⟨q, List.mem_of_getElem? hq, rfl⟩
theorem zn1 {x : Jvm.Cond} (i : Nat) (h : tables_1_1[i]? = some x) (hg : zisN x = true) : x ∈ zNW := List.mem_filter.mpr ⟨List.mem_append_right _ (List.mem_append_left _ (List.mem_of_getElem? h)), hg⟩
theorem zn2 {x : Jvm.Cond} (i : Nat) (h : tables_1_2[i]? = some x) (hg : zisN x = true) : x ∈ zNW := List.mem_filter.mpr ⟨List.mem_append_right _ (List.mem_append_right _ (List.mem_append_left _ (List.mem_of_getElem? h))), hg⟩
theorem zn3 {x : Jvm.Cond} (i : Nat) (h : tables_1_3[i]? = some x) (hg : zisN x = true) : x ∈ zNW := List.mem_filter.mpr ⟨List.mem_append_right _ (List.mem_append_right _ (List.mem_append_right _ (List.mem_append_left _ (List.mem_of_getElem? h)))), hg⟩
theorem zn4 {x : Jvm.Cond} (i : Nat) (h : tables_1_4[i]? = some x) (hg : zisN x = true) : x ∈ zNW := List.mem_filter.mpr ⟨List.mem_append_right _ (List.mem_append_right _ (List.mem_append_right _ (List.mem_append_right _ (List.mem_append_left _ (List.mem_of_getElem? h))))), hg⟩
theorem zn5 {x : Jvm.Cond} (i : Nat) (h : tables_1_5[i]? = some x) (hg : zisN x = true) : x ∈ zNW := List.mem_filter.mpr ⟨List.mem_append_right _ (List.mem_append_right _ (List.mem_append_right _ (List.mem_append_right _ (List.mem_append_right _ ((List.mem_of_getElem? h)))))), hg⟩
def zflok (c : Nat) (q : Nat × Nat × Nat) : Prop := Jvm.Cond.fieldLink (zRn c) q.1 (zTt q.2.1 q.2.2).1 (zTt q.2.1 q.2.2).2.1 (zTt q.2.1 q.2.2).2.2.1 ∈ zTB ∧ q.2.1 < 9
theorem zfl_0 : ∀ q ∈ zFL 0, zflok 0 q := (List.forall_mem_cons.mpr ⟨⟨zt1 162 rfl rfl, by decide⟩, (List.forall_mem_cons.mpr ⟨⟨zt1 163 rfl rfl, by decide⟩, (List.forall_mem_cons.mpr ⟨⟨zt1 164 rfl rfl, by decide⟩, (fun _ h => absurd h List.not_mem_nil)⟩)⟩)⟩)
theorem zfl_1 : ∀ q ∈ zFL 1, zflok 1 q := (List.forall_mem_cons.mpr ⟨⟨zt1 67 rfl rfl, by decide⟩, (List.forall_mem_cons.mpr ⟨⟨zt1 68 rfl rfl, by decide⟩, (List.forall_mem_cons.mpr ⟨⟨zt1 69 rfl rfl, by decide⟩, (List.forall_mem_cons.mpr ⟨⟨zt1 70 rfl rfl, by decide⟩, (List.forall_mem_cons.mpr ⟨⟨zt1 32 rfl rfl, by decide⟩, (List.forall_mem_cons.mpr ⟨⟨zt1 43 rfl rfl, by decide⟩, (List.forall_mem_cons.mpr ⟨⟨zt1 36 rfl rfl, by decide⟩, (fun _ h => absurd h List.not_mem_nil)⟩)⟩)⟩)⟩)⟩)⟩)⟩)
theorem zfl_2 : ∀ q ∈ zFL 2, zflok 2 q := (List.forall_mem_cons.mpr ⟨⟨zt1 86 rfl rfl, by decide⟩, (List.forall_mem_cons.mpr ⟨⟨zt1 90 rfl rfl, by decide⟩, (List.forall_mem_cons.mpr ⟨⟨zt1 93 rfl rfl, by decide⟩, (List.forall_mem_cons.mpr ⟨⟨zt1 95 rfl rfl, by decide⟩, (List.forall_mem_cons.mpr ⟨⟨zt1 97 rfl rfl, by decide⟩, (List.forall_mem_cons.mpr ⟨⟨zt1 100 rfl rfl, by decide⟩, (List.forall_mem_cons.mpr ⟨⟨zt1 102 rfl rfl, by decide⟩, (List.forall_mem_cons.mpr ⟨⟨zt1 104 rfl rfl, by decide⟩, (List.forall_mem_cons.mpr ⟨⟨zt1 106 rfl rfl, by decide⟩, (List.forall_mem_cons.mpr ⟨⟨zt1 107 rfl rfl, by decide⟩, (List.forall_mem_cons.mpr ⟨⟨zt1 109 rfl rfl, by decide⟩, (List.forall_mem_cons.mpr ⟨⟨zt1 31 rfl rfl, by decide⟩, (List.forall_mem_cons.mpr ⟨⟨zt1 38 rfl rfl, by decide⟩, (List.forall_mem_cons.mpr ⟨⟨zt1 35 rfl rfl, by decide⟩, (fun _ h => absurd h List.not_mem_nil)⟩)⟩)⟩)⟩)⟩)⟩)⟩)⟩)⟩)⟩)⟩)⟩)⟩)⟩)
theorem zfl_3 : ∀ q ∈ zFL 3, zflok 3 q := (List.forall_mem_cons.mpr ⟨⟨zt1 200 rfl rfl, by decide⟩, (List.forall_mem_cons.mpr ⟨⟨zt1 201 rfl rfl, by decide⟩, (List.forall_mem_cons.mpr ⟨⟨zt1 202 rfl rfl, by decide⟩, (List.forall_mem_cons.mpr ⟨⟨zt1 203 rfl rfl, by decide⟩, (List.forall_mem_cons.mpr ⟨⟨zt1 204 rfl rfl, by decide⟩, (List.forall_mem_cons.mpr ⟨⟨zt1 205 rfl rfl, by decide⟩, (List.forall_mem_cons.mpr ⟨⟨zt1 207 rfl rfl, by decide⟩, (List.forall_mem_cons.mpr ⟨⟨zt1 209 rfl rfl, by decide⟩, (List.forall_mem_cons.mpr ⟨⟨zt1 211 rfl rfl, by decide⟩, (List.forall_mem_cons.mpr ⟨⟨zt1 212 rfl rfl, by decide⟩, (List.forall_mem_cons.mpr ⟨⟨zt1 214 rfl rfl, by decide⟩, (List.forall_mem_cons.mpr ⟨⟨zt1 216 rfl rfl, by decide⟩, (List.forall_mem_cons.mpr ⟨⟨zt1 218 rfl rfl, by decide⟩, (List.forall_mem_cons.mpr ⟨⟨zt1 220 rfl rfl, by decide⟩, (List.forall_mem_cons.mpr ⟨⟨zt1 222 rfl rfl, by decide⟩, (List.forall_mem_cons.mpr ⟨⟨zt1 98 rfl rfl, by decide⟩, (List.forall_mem_cons.mpr ⟨⟨zt1 92 rfl rfl, by decide⟩, (List.forall_mem_cons.mpr ⟨⟨zt1 89 rfl rfl, by decide⟩, (fun _ h => absurd h List.not_mem_nil)⟩)⟩)⟩)⟩)⟩)⟩)⟩)⟩)⟩)⟩)⟩)⟩)⟩)⟩)⟩)⟩)⟩)⟩)
theorem zfl_4 : ∀ q ∈ zFL 4, zflok 4 q := (List.forall_mem_cons.mpr ⟨⟨zt1 150 rfl rfl, by decide⟩, (List.forall_mem_cons.mpr ⟨⟨zt1 151 rfl rfl, by decide⟩, (List.forall_mem_cons.mpr ⟨⟨zt1 152 rfl rfl, by decide⟩, (List.forall_mem_cons.mpr ⟨⟨zt1 110 rfl rfl, by decide⟩, (fun _ h => absurd h List.not_mem_nil)⟩)⟩)⟩)⟩)
theorem zfl_5 : ∀ q ∈ zFL 5, zflok 5 q := (List.forall_mem_cons.mpr ⟨⟨zt1 181 rfl rfl, by decide⟩, (List.forall_mem_cons.mpr ⟨⟨zt1 182 rfl rfl, by decide⟩, (List.forall_mem_cons.mpr ⟨⟨zt1 183 rfl rfl, by decide⟩, (List.forall_mem_cons.mpr ⟨⟨zt1 87 rfl rfl, by decide⟩, (fun _ h => absurd h List.not_mem_nil)⟩)⟩)⟩)⟩)
theorem zfl_6 : ∀ q ∈ zFL 6, zflok 6 q := (List.forall_mem_cons.mpr ⟨⟨zt1 30 rfl rfl, by decide⟩, (List.forall_mem_cons.mpr ⟨⟨zt1 33 rfl rfl, by decide⟩, (List.forall_mem_cons.mpr ⟨⟨zt1 37 rfl rfl, by decide⟩, (List.forall_mem_cons.mpr ⟨⟨zt1 39 rfl rfl, by decide⟩, (List.forall_mem_cons.mpr ⟨⟨zt1 40 rfl rfl, by decide⟩, (List.forall_mem_cons.mpr ⟨⟨zt1 41 rfl rfl, by decide⟩, (List.forall_mem_cons.mpr ⟨⟨zt1 42 rfl rfl, by decide⟩, (fun _ h => absurd h List.not_mem_nil)⟩)⟩)⟩)⟩)⟩)⟩)⟩)
theorem zfl_7 : ∀ q ∈ zFL 7, zflok 7 q := (List.forall_mem_cons.mpr ⟨⟨zt2 15 rfl rfl, by decide⟩, (List.forall_mem_cons.mpr ⟨⟨zt2 16 rfl rfl, by decide⟩, (List.forall_mem_cons.mpr ⟨⟨zt2 17 rfl rfl, by decide⟩, (List.forall_mem_cons.mpr ⟨⟨zt2 18 rfl rfl, by decide⟩, (List.forall_mem_cons.mpr ⟨⟨zt2 19 rfl rfl, by decide⟩, (List.forall_mem_cons.mpr ⟨⟨zt2 20 rfl rfl, by decide⟩, (List.forall_mem_cons.mpr ⟨⟨zt2 21 rfl rfl, by decide⟩, (List.forall_mem_cons.mpr ⟨⟨zt2 22 rfl rfl, by decide⟩, (List.forall_mem_cons.mpr ⟨⟨zt2 23 rfl rfl, by decide⟩, (List.forall_mem_cons.mpr ⟨⟨zt2 24 rfl rfl, by decide⟩, (List.forall_mem_cons.mpr ⟨⟨zt1 184 rfl rfl, by decide⟩, (List.forall_mem_cons.mpr ⟨⟨zt1 210 rfl rfl, by decide⟩, (List.forall_mem_cons.mpr ⟨⟨zt1 88 rfl rfl, by decide⟩, (List.forall_mem_cons.mpr ⟨⟨zt1 91 rfl rfl, by decide⟩, (List.forall_mem_cons.mpr ⟨⟨zt1 94 rfl rfl, by decide⟩, (List.forall_mem_cons.mpr ⟨⟨zt1 96 rfl rfl, by decide⟩, (List.forall_mem_cons.mpr ⟨⟨zt1 99 rfl rfl, by decide⟩, (List.forall_mem_cons.mpr ⟨⟨zt1 101 rfl rfl, by decide⟩, (List.forall_mem_cons.mpr ⟨⟨zt1 34 rfl rfl, by decide⟩, (List.forall_mem_cons.mpr ⟨⟨zt1 103 rfl rfl, by decide⟩, (List.forall_mem_cons.mpr ⟨⟨zt1 108 rfl rfl, by decide⟩, (List.forall_mem_cons.mpr ⟨⟨zt1 105 rfl rfl, by decide⟩, (List.forall_mem_cons.mpr ⟨⟨zt1 165 rfl rfl, by decide⟩, (List.forall_mem_cons.mpr ⟨⟨zt1 213 rfl rfl, by decide⟩, (List.forall_mem_cons.mpr ⟨⟨zt1 215 rfl rfl, by decide⟩, (List.forall_mem_cons.mpr ⟨⟨zt1 217 rfl rfl, by decide⟩, (List.forall_mem_cons.mpr ⟨⟨zt1 219 rfl rfl, by decide⟩, (List.forall_mem_cons.mpr ⟨⟨zt1 221 rfl rfl, by decide⟩, (List.forall_mem_cons.mpr ⟨⟨zt1 206 rfl rfl, by decide⟩, (List.forall_mem_cons.mpr ⟨⟨zt1 208 rfl rfl, by decide⟩, (List.forall_mem_cons.mpr ⟨⟨zt1 223 rfl rfl, by decide⟩, (List.forall_mem_cons.mpr ⟨⟨zt1 44 rfl rfl, by decide⟩, (List.forall_mem_cons.mpr ⟨⟨zt1 111 rfl rfl, by decide⟩, (fun _ h => absurd h List.not_mem_nil)⟩)⟩)⟩)⟩)⟩)⟩)⟩)⟩)⟩)⟩)⟩)⟩)⟩)⟩)⟩)⟩)⟩)⟩)⟩)⟩)⟩)⟩)⟩)⟩)⟩)⟩)⟩)⟩)⟩)⟩)⟩)⟩)⟩)
theorem zfl_8 : ∀ q ∈ zFL 8, zflok 8 q := (List.forall_mem_cons.mpr ⟨⟨zt4 23 rfl rfl, by decide⟩, (List.forall_mem_cons.mpr ⟨⟨zt4 25 rfl rfl, by decide⟩, (List.forall_mem_cons.mpr ⟨⟨zt4 26 rfl rfl, by decide⟩, (List.forall_mem_cons.mpr ⟨⟨zt4 27 rfl rfl, by decide⟩, (List.forall_mem_cons.mpr ⟨⟨zt4 28 rfl rfl, by decide⟩, (List.forall_mem_cons.mpr ⟨⟨zt4 30 rfl rfl, by decide⟩, (List.forall_mem_cons.mpr ⟨⟨zt4 31 rfl rfl, by decide⟩, (List.forall_mem_cons.mpr ⟨⟨zt4 39 rfl rfl, by decide⟩, (List.forall_mem_cons.mpr ⟨⟨zt4 40 rfl rfl, by decide⟩, (List.forall_mem_cons.mpr ⟨⟨zt4 41 rfl rfl, by decide⟩, (List.forall_mem_cons.mpr ⟨⟨zt4 42 rfl rfl, by decide⟩, (List.forall_mem_cons.mpr ⟨⟨zt4 43 rfl rfl, by decide⟩, (List.forall_mem_cons.mpr ⟨⟨zt4 44 rfl rfl, by decide⟩, (List.forall_mem_cons.mpr ⟨⟨zt4 46 rfl rfl, by decide⟩, (List.forall_mem_cons.mpr ⟨⟨zt4 47 rfl rfl, by decide⟩, (List.forall_mem_cons.mpr ⟨⟨zt4 48 rfl rfl, by decide⟩, (List.forall_mem_cons.mpr ⟨⟨zt4 49 rfl rfl, by decide⟩, (List.forall_mem_cons.mpr ⟨⟨zt4 50 rfl rfl, by decide⟩, (List.forall_mem_cons.mpr ⟨⟨zt4 56 rfl rfl, by decide⟩, (List.forall_mem_cons.mpr ⟨⟨zt4 57 rfl rfl, by decide⟩, (List.forall_mem_cons.mpr ⟨⟨zt4 61 rfl rfl, by decide⟩, (List.forall_mem_cons.mpr ⟨⟨zt4 63 rfl rfl, by decide⟩, (List.forall_mem_cons.mpr ⟨⟨zt4 64 rfl rfl, by decide⟩, (List.forall_mem_cons.mpr ⟨⟨zt4 65 rfl rfl, by decide⟩, (List.forall_mem_cons.mpr ⟨⟨zt4 24 rfl rfl, by decide⟩, (List.forall_mem_cons.mpr ⟨⟨zt4 29 rfl rfl, by decide⟩, (List.forall_mem_cons.mpr ⟨⟨zt4 32 rfl rfl, by decide⟩, (List.forall_mem_cons.mpr ⟨⟨zt4 33 rfl rfl, by decide⟩, (List.forall_mem_cons.mpr ⟨⟨zt4 34 rfl rfl, by decide⟩, (List.forall_mem_cons.mpr ⟨⟨zt4 35 rfl rfl, by decide⟩, (List.forall_mem_cons.mpr ⟨⟨zt4 36 rfl rfl, by decide⟩, (List.forall_mem_cons.mpr ⟨⟨zt4 37 rfl rfl, by decide⟩, (List.forall_mem_cons.mpr ⟨⟨zt4 38 rfl rfl, by decide⟩, (List.forall_mem_cons.mpr ⟨⟨zt4 45 rfl rfl, by decide⟩, (List.forall_mem_cons.mpr ⟨⟨zt4 62 rfl rfl, by decide⟩, (List.forall_mem_cons.mpr ⟨⟨zt4 51 rfl rfl, by decide⟩, (List.forall_mem_cons.mpr ⟨⟨zt4 52 rfl rfl, by decide⟩, (List.forall_mem_cons.mpr ⟨⟨zt4 53 rfl rfl, by decide⟩, (List.forall_mem_cons.mpr ⟨⟨zt4 54 rfl rfl, by decide⟩, (List.forall_mem_cons.mpr ⟨⟨zt4 55 rfl rfl, by decide⟩, (List.forall_mem_cons.mpr ⟨⟨zt4 59 rfl rfl, by decide⟩, (List.forall_mem_cons.mpr ⟨⟨zt4 60 rfl rfl, by decide⟩, (List.forall_mem_cons.mpr ⟨⟨zt4 58 rfl rfl, by decide⟩, (fun _ h => absurd h List.not_mem_nil)⟩)⟩)⟩)⟩)⟩)⟩)⟩)⟩)⟩)⟩)⟩)⟩)⟩)⟩)⟩)⟩)⟩)⟩)⟩)⟩)⟩)⟩)⟩)⟩)⟩)⟩)⟩)⟩)⟩)⟩)⟩)⟩)⟩)⟩)⟩)⟩)⟩)⟩)⟩)⟩)⟩)⟩)⟩)
theorem zfl_ok (c : Nat) (hc : c < 9) : ∀ q ∈ zFL c, zflok c q := match c, hc with
  | 0, _ => zfl_0
  | 1, _ => zfl_1
  | 2, _ => zfl_2
  | 3, _ => zfl_3
  | 4, _ => zfl_4
  | 5, _ => zfl_5
  | 6, _ => zfl_6
  | 7, _ => zfl_7
  | 8, _ => zfl_8
  | c + 9, hc => absurd hc (by omega)
def zklok (c : Nat) (q : Nat × Int) : Prop := Jvm.Cond.constantLong (zRn c) q.1 (Int64.ofInt q.2) ∈ zTB ∧ zin (1, q.2)
theorem zkl_0 : ∀ q ∈ zKL 0, zklok 0 q := (fun _ h => absurd h List.not_mem_nil)
theorem zkl_1 : ∀ q ∈ zKL 1, zklok 1 q := (fun _ h => absurd h List.not_mem_nil)
theorem zkl_2 : ∀ q ∈ zKL 2, zklok 2 q := (fun _ h => absurd h List.not_mem_nil)
theorem zkl_3 : ∀ q ∈ zKL 3, zklok 3 q := (List.forall_mem_cons.mpr ⟨⟨zt3 159 rfl rfl, by constructor <;> decide⟩, (fun _ h => absurd h List.not_mem_nil)⟩)
theorem zkl_4 : ∀ q ∈ zKL 4, zklok 4 q := (fun _ h => absurd h List.not_mem_nil)
theorem zkl_5 : ∀ q ∈ zKL 5, zklok 5 q := (fun _ h => absurd h List.not_mem_nil)
theorem zkl_6 : ∀ q ∈ zKL 6, zklok 6 q := (fun _ h => absurd h List.not_mem_nil)
theorem zkl_7 : ∀ q ∈ zKL 7, zklok 7 q := (fun _ h => absurd h List.not_mem_nil)
theorem zkl_8 : ∀ q ∈ zKL 8, zklok 8 q := (List.forall_mem_cons.mpr ⟨⟨zt4 209 rfl rfl, by constructor <;> decide⟩, (List.forall_mem_cons.mpr ⟨⟨zt4 210 rfl rfl, by constructor <;> decide⟩, (List.forall_mem_cons.mpr ⟨⟨zt4 223 rfl rfl, by constructor <;> decide⟩, (List.forall_mem_cons.mpr ⟨⟨zt4 157 rfl rfl, by constructor <;> decide⟩, (List.forall_mem_cons.mpr ⟨⟨zt4 173 rfl rfl, by constructor <;> decide⟩, (List.forall_mem_cons.mpr ⟨⟨zt4 174 rfl rfl, by constructor <;> decide⟩, (List.forall_mem_cons.mpr ⟨⟨zt5 61 rfl rfl, by constructor <;> decide⟩, (List.forall_mem_cons.mpr ⟨⟨zt5 62 rfl rfl, by constructor <;> decide⟩, (List.forall_mem_cons.mpr ⟨⟨zt5 48 rfl rfl, by constructor <;> decide⟩, (fun _ h => absurd h List.not_mem_nil)⟩)⟩)⟩)⟩)⟩)⟩)⟩)⟩)⟩)
theorem zkl_ok (c : Nat) (hc : c < 9) : ∀ q ∈ zKL c, zklok c q := match c, hc with
  | 0, _ => zkl_0
  | 1, _ => zkl_1
  | 2, _ => zkl_2
  | 3, _ => zkl_3
  | 4, _ => zkl_4
  | 5, _ => zkl_5
  | 6, _ => zkl_6
  | 7, _ => zkl_7
  | 8, _ => zkl_8
  | c + 9, hc => absurd hc (by omega)
def zclok (c : Nat) (q : Nat × Nat) : Prop := Jvm.Cond.classLink (zRn c) q.1 (zRn q.2) ∈ zTB ∧ Jvm.Cond.instantiable (zRn q.2) (zNf q.2) ∈ zTB ∧ Jvm.Cond.initialized (zRn q.2) ∈ zTB
theorem zcl_0 : ∀ q ∈ zCL 0, zclok 0 q := (List.forall_mem_cons.mpr ⟨⟨zt1 141 rfl rfl, (zt1 142 rfl rfl), (zt1 6 rfl rfl)⟩, (fun _ h => absurd h List.not_mem_nil)⟩)
theorem zcl_1 : ∀ q ∈ zCL 1, zclok 1 q := (fun _ h => absurd h List.not_mem_nil)
theorem zcl_2 : ∀ q ∈ zCL 2, zclok 2 q := (fun _ h => absurd h List.not_mem_nil)
theorem zcl_3 : ∀ q ∈ zCL 3, zclok 3 q := (List.forall_mem_cons.mpr ⟨⟨zt1 198 rfl rfl, (zt1 81 rfl rfl), (zt1 4 rfl rfl)⟩, (fun _ h => absurd h List.not_mem_nil)⟩)
theorem zcl_4 : ∀ q ∈ zCL 4, zclok 4 q := (fun _ h => absurd h List.not_mem_nil)
theorem zcl_5 : ∀ q ∈ zCL 5, zclok 5 q := (fun _ h => absurd h List.not_mem_nil)
theorem zcl_6 : ∀ q ∈ zCL 6, zclok 6 q := (fun _ h => absurd h List.not_mem_nil)
theorem zcl_7 : ∀ q ∈ zCL 7, zclok 7 q := (List.forall_mem_cons.mpr ⟨⟨zt1 24 rfl rfl, (zt1 25 rfl rfl), (zt1 2 rfl rfl)⟩, (List.forall_mem_cons.mpr ⟨⟨zt1 61 rfl rfl, (zt1 62 rfl rfl), (zt1 3 rfl rfl)⟩, (List.forall_mem_cons.mpr ⟨⟨zt1 80 rfl rfl, (zt1 81 rfl rfl), (zt1 4 rfl rfl)⟩, (List.forall_mem_cons.mpr ⟨⟨zt1 135 rfl rfl, (zt1 136 rfl rfl), (zt1 5 rfl rfl)⟩, (List.forall_mem_cons.mpr ⟨⟨zt1 173 rfl rfl, (zt1 142 rfl rfl), (zt1 6 rfl rfl)⟩, (List.forall_mem_cons.mpr ⟨⟨zt1 175 rfl rfl, (zt1 176 rfl rfl), (zt1 8 rfl rfl)⟩, (List.forall_mem_cons.mpr ⟨⟨zt1 192 rfl rfl, (zt1 193 rfl rfl), (zt1 9 rfl rfl)⟩, (fun _ h => absurd h List.not_mem_nil)⟩)⟩)⟩)⟩)⟩)⟩)⟩)
theorem zcl_8 : ∀ q ∈ zCL 8, zclok 8 q := (fun _ h => absurd h List.not_mem_nil)
theorem zcl_ok (c : Nat) (hc : c < 9) : ∀ q ∈ zCL c, zclok c q := match c, hc with
  | 0, _ => zcl_0
  | 1, _ => zcl_1
  | 2, _ => zcl_2
  | 3, _ => zcl_3
  | 4, _ => zcl_4
  | 5, _ => zcl_5
  | 6, _ => zcl_6
  | 7, _ => zcl_7
  | 8, _ => zcl_8
  | c + 9, hc => absurd hc (by omega)
theorem zuw_0 : ∀ x ∈ u_ws (zRn 0) (zTt 0) (zNf 0), x ∈ zTB := (List.forall_mem_cons.mpr ⟨zt1 166 rfl rfl, (List.forall_mem_cons.mpr ⟨zt1 168 rfl rfl, (List.forall_mem_cons.mpr ⟨zt1 170 rfl rfl, (fun _ h => absurd h List.not_mem_nil)⟩)⟩)⟩)
theorem zuw_1 : ∀ x ∈ u_ws (zRn 1) (zTt 1) (zNf 1), x ∈ zTB := (List.forall_mem_cons.mpr ⟨zt1 71 rfl rfl, (List.forall_mem_cons.mpr ⟨zt1 73 rfl rfl, (List.forall_mem_cons.mpr ⟨zt1 75 rfl rfl, (List.forall_mem_cons.mpr ⟨zt1 77 rfl rfl, (fun _ h => absurd h List.not_mem_nil)⟩)⟩)⟩)⟩)
theorem zuw_2 : ∀ x ∈ u_ws (zRn 2) (zTt 2) (zNf 2), x ∈ zTB := (List.forall_mem_cons.mpr ⟨zt1 112 rfl rfl, (List.forall_mem_cons.mpr ⟨zt1 114 rfl rfl, (List.forall_mem_cons.mpr ⟨zt1 116 rfl rfl, (List.forall_mem_cons.mpr ⟨zt1 118 rfl rfl, (List.forall_mem_cons.mpr ⟨zt1 120 rfl rfl, (List.forall_mem_cons.mpr ⟨zt1 122 rfl rfl, (List.forall_mem_cons.mpr ⟨zt1 124 rfl rfl, (List.forall_mem_cons.mpr ⟨zt1 126 rfl rfl, (List.forall_mem_cons.mpr ⟨zt1 128 rfl rfl, (List.forall_mem_cons.mpr ⟨zt1 130 rfl rfl, (List.forall_mem_cons.mpr ⟨zt1 132 rfl rfl, (fun _ h => absurd h List.not_mem_nil)⟩)⟩)⟩)⟩)⟩)⟩)⟩)⟩)⟩)⟩)⟩)
theorem zuw_3 : ∀ x ∈ u_ws (zRn 3) (zTt 3) (zNf 3), x ∈ zTB := (List.forall_mem_cons.mpr ⟨zt1 224 rfl rfl, (List.forall_mem_cons.mpr ⟨zt1 226 rfl rfl, (List.forall_mem_cons.mpr ⟨zt1 228 rfl rfl, (List.forall_mem_cons.mpr ⟨zt1 230 rfl rfl, (List.forall_mem_cons.mpr ⟨zt1 232 rfl rfl, (List.forall_mem_cons.mpr ⟨zt1 234 rfl rfl, (List.forall_mem_cons.mpr ⟨zt1 236 rfl rfl, (List.forall_mem_cons.mpr ⟨zt1 238 rfl rfl, (List.forall_mem_cons.mpr ⟨zt2 0 rfl rfl, (List.forall_mem_cons.mpr ⟨zt2 2 rfl rfl, (List.forall_mem_cons.mpr ⟨zt2 4 rfl rfl, (List.forall_mem_cons.mpr ⟨zt2 6 rfl rfl, (List.forall_mem_cons.mpr ⟨zt2 8 rfl rfl, (List.forall_mem_cons.mpr ⟨zt2 10 rfl rfl, (List.forall_mem_cons.mpr ⟨zt2 12 rfl rfl, (fun _ h => absurd h List.not_mem_nil)⟩)⟩)⟩)⟩)⟩)⟩)⟩)⟩)⟩)⟩)⟩)⟩)⟩)⟩)⟩)
theorem zuw_4 : ∀ x ∈ u_ws (zRn 4) (zTt 4) (zNf 4), x ∈ zTB := (List.forall_mem_cons.mpr ⟨zt1 153 rfl rfl, (List.forall_mem_cons.mpr ⟨zt1 155 rfl rfl, (List.forall_mem_cons.mpr ⟨zt1 157 rfl rfl, (fun _ h => absurd h List.not_mem_nil)⟩)⟩)⟩)
theorem zuw_5 : ∀ x ∈ u_ws (zRn 5) (zTt 5) (zNf 5), x ∈ zTB := (List.forall_mem_cons.mpr ⟨zt1 185 rfl rfl, (List.forall_mem_cons.mpr ⟨zt1 187 rfl rfl, (List.forall_mem_cons.mpr ⟨zt1 189 rfl rfl, (fun _ h => absurd h List.not_mem_nil)⟩)⟩)⟩)
theorem zuw_6 : ∀ x ∈ u_ws (zRn 6) (zTt 6) (zNf 6), x ∈ zTB := (List.forall_mem_cons.mpr ⟨zt1 45 rfl rfl, (List.forall_mem_cons.mpr ⟨zt1 47 rfl rfl, (List.forall_mem_cons.mpr ⟨zt1 49 rfl rfl, (List.forall_mem_cons.mpr ⟨zt1 51 rfl rfl, (List.forall_mem_cons.mpr ⟨zt1 53 rfl rfl, (List.forall_mem_cons.mpr ⟨zt1 55 rfl rfl, (List.forall_mem_cons.mpr ⟨zt1 57 rfl rfl, (fun _ h => absurd h List.not_mem_nil)⟩)⟩)⟩)⟩)⟩)⟩)⟩)
theorem zuw_7 : ∀ x ∈ u_ws (zRn 7) (zTt 7) (zNf 7), x ∈ zTB := (List.forall_mem_cons.mpr ⟨zt2 25 rfl rfl, (List.forall_mem_cons.mpr ⟨zt2 27 rfl rfl, (List.forall_mem_cons.mpr ⟨zt2 29 rfl rfl, (List.forall_mem_cons.mpr ⟨zt2 31 rfl rfl, (List.forall_mem_cons.mpr ⟨zt2 33 rfl rfl, (List.forall_mem_cons.mpr ⟨zt2 35 rfl rfl, (List.forall_mem_cons.mpr ⟨zt2 37 rfl rfl, (List.forall_mem_cons.mpr ⟨zt2 39 rfl rfl, (List.forall_mem_cons.mpr ⟨zt2 41 rfl rfl, (List.forall_mem_cons.mpr ⟨zt2 43 rfl rfl, (fun _ h => absurd h List.not_mem_nil)⟩)⟩)⟩)⟩)⟩)⟩)⟩)⟩)⟩)⟩)
theorem zuw_8 : ∀ x ∈ u_ws (zRn 8) (zTt 8) (zNf 8), x ∈ zTB := (List.forall_mem_cons.mpr ⟨zt4 66 rfl rfl, (List.forall_mem_cons.mpr ⟨zt4 68 rfl rfl, (List.forall_mem_cons.mpr ⟨zt4 70 rfl rfl, (List.forall_mem_cons.mpr ⟨zt4 72 rfl rfl, (List.forall_mem_cons.mpr ⟨zt4 74 rfl rfl, (List.forall_mem_cons.mpr ⟨zt4 76 rfl rfl, (List.forall_mem_cons.mpr ⟨zt4 78 rfl rfl, (List.forall_mem_cons.mpr ⟨zt4 80 rfl rfl, (List.forall_mem_cons.mpr ⟨zt4 82 rfl rfl, (List.forall_mem_cons.mpr ⟨zt4 84 rfl rfl, (List.forall_mem_cons.mpr ⟨zt4 86 rfl rfl, (List.forall_mem_cons.mpr ⟨zt4 88 rfl rfl, (List.forall_mem_cons.mpr ⟨zt4 90 rfl rfl, (List.forall_mem_cons.mpr ⟨zt4 92 rfl rfl, (List.forall_mem_cons.mpr ⟨zt4 94 rfl rfl, (List.forall_mem_cons.mpr ⟨zt4 96 rfl rfl, (List.forall_mem_cons.mpr ⟨zt4 98 rfl rfl, (List.forall_mem_cons.mpr ⟨zt4 100 rfl rfl, (List.forall_mem_cons.mpr ⟨zt4 102 rfl rfl, (List.forall_mem_cons.mpr ⟨zt4 104 rfl rfl, (List.forall_mem_cons.mpr ⟨zt4 106 rfl rfl, (List.forall_mem_cons.mpr ⟨zt4 108 rfl rfl, (List.forall_mem_cons.mpr ⟨zt4 110 rfl rfl, (List.forall_mem_cons.mpr ⟨zt4 112 rfl rfl, (List.forall_mem_cons.mpr ⟨zt4 114 rfl rfl, (List.forall_mem_cons.mpr ⟨zt4 116 rfl rfl, (List.forall_mem_cons.mpr ⟨zt4 118 rfl rfl, (List.forall_mem_cons.mpr ⟨zt4 120 rfl rfl, (List.forall_mem_cons.mpr ⟨zt4 122 rfl rfl, (List.forall_mem_cons.mpr ⟨zt4 124 rfl rfl, (List.forall_mem_cons.mpr ⟨zt4 126 rfl rfl, (List.forall_mem_cons.mpr ⟨zt4 128 rfl rfl, (List.forall_mem_cons.mpr ⟨zt4 130 rfl rfl, (List.forall_mem_cons.mpr ⟨zt4 132 rfl rfl, (List.forall_mem_cons.mpr ⟨zt4 134 rfl rfl, (List.forall_mem_cons.mpr ⟨zt4 136 rfl rfl, (List.forall_mem_cons.mpr ⟨zt4 138 rfl rfl, (List.forall_mem_cons.mpr ⟨zt4 140 rfl rfl, (List.forall_mem_cons.mpr ⟨zt4 142 rfl rfl, (List.forall_mem_cons.mpr ⟨zt4 144 rfl rfl, (List.forall_mem_cons.mpr ⟨zt4 146 rfl rfl, (List.forall_mem_cons.mpr ⟨zt4 148 rfl rfl, (List.forall_mem_cons.mpr ⟨zt4 150 rfl rfl, (fun _ h => absurd h List.not_mem_nil)⟩)⟩)⟩)⟩)⟩)⟩)⟩)⟩)⟩)⟩)⟩)⟩)⟩)⟩)⟩)⟩)⟩)⟩)⟩)⟩)⟩)⟩)⟩)⟩)⟩)⟩)⟩)⟩)⟩)⟩)⟩)⟩)⟩)⟩)⟩)⟩)⟩)⟩)⟩)⟩)⟩)⟩)⟩)
theorem zuw_ok (c : Nat) (hc : c < 9) : ∀ x ∈ u_ws (zRn c) (zTt c) (zNf c), x ∈ zTB := match c, hc with
  | 0, _ => zuw_0
  | 1, _ => zuw_1
  | 2, _ => zuw_2
  | 3, _ => zuw_3
  | 4, _ => zuw_4
  | 5, _ => zuw_5
  | 6, _ => zuw_6
  | 7, _ => zuw_7
  | 8, _ => zuw_8
  | c + 9, hc => absurd hc (by omega)
theorem zcl_at (c : Nat) (hc : c < 9) : vwCl[c]? = some (zRn c, zTt c, zNf c) := match c, hc with
  | 0, _ => rfl
  | 1, _ => rfl
  | 2, _ => rfl
  | 3, _ => rfl
  | 4, _ => rfl
  | 5, _ => rfl
  | 6, _ => rfl
  | 7, _ => rfl
  | 8, _ => rfl
  | c + 9, hc => absurd hc (by omega)
theorem zty_ok (c : Nat) (hc : c < 9) : ∀ k, k < zNf c → parseFieldDescriptor (zTt c k).2.2.1 = some (zty c k) := match c, hc with
  | 0, _ => tyX0_ok
  | 1, _ => tyX1_ok
  | 2, _ => tyX2_ok
  | 3, _ => tyX3_ok
  | 4, _ => tyX4_ok
  | 5, _ => tyX5_ok
  | 6, _ => tyX6_ok
  | 7, _ => tyX7_ok
  | 8, _ => tyX8_ok
  | c + 9, hc => absurd hc (by omega)
theorem znm_ok (c : Nat) (hc : c < 9) : ∀ a, a < zNf c → ∀ b, b < zNf c → a ≠ b → (zTt c a).2.1 ≠ (zTt c b).2.1 := match c, hc with
  | 0, _ => nmX0
  | 1, _ => nmX1
  | 2, _ => nmX2
  | 3, _ => nmX3
  | 4, _ => nmX4
  | 5, _ => nmX5
  | 6, _ => nmX6
  | 7, _ => nmX7
  | 8, _ => nmX8
  | c + 9, hc => absurd hc (by omega)
def zmok (m : Nat) : Prop := Jvm.Cond.code (zyn m) (zby m) (zmx m) (zrt m) ∈ zTB ∧ Jvm.Cond.initialized (zyn m).cls ∈ zTB ∧ ((zyn m).cls ≠ "java/lang/invoke/MethodHandle" ∧ (zyn m).cls ≠ "java/lang/invoke/VarHandle") ∧ plainName (zyn m).cls = true ∧ (zyn m).cls = zRn (zcn m) ∧ zmx m ≤ 20 ∧ zcn m < 9
theorem zmo_0 : zmok 0 := ⟨zt1 139 rfl rfl, (zt1 5 rfl rfl), ⟨by decide +kernel, by decide +kernel⟩, by decide +kernel, rfl, by decide, by decide⟩
theorem zmo_1 : zmok 1 := ⟨zt2 219 rfl rfl, (zt1 5 rfl rfl), ⟨by decide +kernel, by decide +kernel⟩, by decide +kernel, rfl, by decide, by decide⟩
theorem zmo_2 : zmok 2 := ⟨zt3 29 rfl rfl, (zt1 5 rfl rfl), ⟨by decide +kernel, by decide +kernel⟩, by decide +kernel, rfl, by decide, by decide⟩
theorem zmo_3 : zmok 3 := ⟨zt3 129 rfl rfl, (zt1 5 rfl rfl), ⟨by decide +kernel, by decide +kernel⟩, by decide +kernel, rfl, by decide, by decide⟩
theorem zmo_4 : zmok 4 := ⟨zt1 65 rfl rfl, (zt1 3 rfl rfl), ⟨by decide +kernel, by decide +kernel⟩, by decide +kernel, rfl, by decide, by decide⟩
theorem zmo_5 : zmok 5 := ⟨zt2 61 rfl rfl, (zt1 3 rfl rfl), ⟨by decide +kernel, by decide +kernel⟩, by decide +kernel, rfl, by decide, by decide⟩
theorem zmo_6 : zmok 6 := ⟨zt2 68 rfl rfl, (zt1 3 rfl rfl), ⟨by decide +kernel, by decide +kernel⟩, by decide +kernel, rfl, by decide, by decide⟩
theorem zmo_7 : zmok 7 := ⟨zt2 71 rfl rfl, (zt1 3 rfl rfl), ⟨by decide +kernel, by decide +kernel⟩, by decide +kernel, rfl, by decide, by decide⟩
theorem zmo_8 : zmok 8 := ⟨zt2 158 rfl rfl, (zt1 3 rfl rfl), ⟨by decide +kernel, by decide +kernel⟩, by decide +kernel, rfl, by decide, by decide⟩
theorem zmo_9 : zmok 9 := ⟨zt2 166 rfl rfl, (zt1 3 rfl rfl), ⟨by decide +kernel, by decide +kernel⟩, by decide +kernel, rfl, by decide, by decide⟩
theorem zmo_10 : zmok 10 := ⟨zt2 211 rfl rfl, (zt1 3 rfl rfl), ⟨by decide +kernel, by decide +kernel⟩, by decide +kernel, rfl, by decide, by decide⟩
theorem zmo_11 : zmok 11 := ⟨zt2 170 rfl rfl, (zt1 3 rfl rfl), ⟨by decide +kernel, by decide +kernel⟩, by decide +kernel, rfl, by decide, by decide⟩
theorem zmo_12 : zmok 12 := ⟨zt2 174 rfl rfl, (zt1 3 rfl rfl), ⟨by decide +kernel, by decide +kernel⟩, by decide +kernel, rfl, by decide, by decide⟩
theorem zmo_13 : zmok 13 := ⟨zt2 206 rfl rfl, (zt1 3 rfl rfl), ⟨by decide +kernel, by decide +kernel⟩, by decide +kernel, rfl, by decide, by decide⟩
theorem zmo_14 : zmok 14 := ⟨zt2 189 rfl rfl, (zt1 3 rfl rfl), ⟨by decide +kernel, by decide +kernel⟩, by decide +kernel, rfl, by decide, by decide⟩
theorem zmo_15 : zmok 15 := ⟨zt2 193 rfl rfl, (zt1 3 rfl rfl), ⟨by decide +kernel, by decide +kernel⟩, by decide +kernel, rfl, by decide, by decide⟩
theorem zmo_16 : zmok 16 := ⟨zt2 178 rfl rfl, (zt1 3 rfl rfl), ⟨by decide +kernel, by decide +kernel⟩, by decide +kernel, rfl, by decide, by decide⟩
theorem zmo_17 : zmok 17 := ⟨zt2 185 rfl rfl, (zt1 3 rfl rfl), ⟨by decide +kernel, by decide +kernel⟩, by decide +kernel, rfl, by decide, by decide⟩
theorem zmo_18 : zmok 18 := ⟨zt1 84 rfl rfl, (zt1 4 rfl rfl), ⟨by decide +kernel, by decide +kernel⟩, by decide +kernel, rfl, by decide, by decide⟩
theorem zmo_19 : zmok 19 := ⟨zt2 215 rfl rfl, (zt1 4 rfl rfl), ⟨by decide +kernel, by decide +kernel⟩, by decide +kernel, rfl, by decide, by decide⟩
theorem zmo_20 : zmok 20 := ⟨zt3 37 rfl rfl, (zt1 4 rfl rfl), ⟨by decide +kernel, by decide +kernel⟩, by decide +kernel, rfl, by decide, by decide⟩
theorem zmo_21 : zmok 21 := ⟨zt3 141 rfl rfl, (zt1 4 rfl rfl), ⟨by decide +kernel, by decide +kernel⟩, by decide +kernel, rfl, by decide, by decide⟩
theorem zmo_22 : zmok 22 := ⟨zt3 177 rfl rfl, (zt1 4 rfl rfl), ⟨by decide +kernel, by decide +kernel⟩, by decide +kernel, rfl, by decide, by decide⟩
theorem zmo_23 : zmok 23 := ⟨zt3 185 rfl rfl, (zt1 4 rfl rfl), ⟨by decide +kernel, by decide +kernel⟩, by decide +kernel, rfl, by decide, by decide⟩
theorem zmo_24 : zmok 24 := ⟨zt2 233 rfl rfl, (zt1 4 rfl rfl), ⟨by decide +kernel, by decide +kernel⟩, by decide +kernel, rfl, by decide, by decide⟩
theorem zmo_25 : zmok 25 := ⟨zt3 11 rfl rfl, (zt1 4 rfl rfl), ⟨by decide +kernel, by decide +kernel⟩, by decide +kernel, rfl, by decide, by decide⟩
theorem zmo_26 : zmok 26 := ⟨zt3 15 rfl rfl, (zt1 4 rfl rfl), ⟨by decide +kernel, by decide +kernel⟩, by decide +kernel, rfl, by decide, by decide⟩
theorem zmo_27 : zmok 27 := ⟨zt3 117 rfl rfl, (zt1 4 rfl rfl), ⟨by decide +kernel, by decide +kernel⟩, by decide +kernel, rfl, by decide, by decide⟩
theorem zmo_28 : zmok 28 := ⟨zt2 237 rfl rfl, (zt1 4 rfl rfl), ⟨by decide +kernel, by decide +kernel⟩, by decide +kernel, rfl, by decide, by decide⟩
theorem zmo_29 : zmok 29 := ⟨zt3 41 rfl rfl, (zt1 4 rfl rfl), ⟨by decide +kernel, by decide +kernel⟩, by decide +kernel, rfl, by decide, by decide⟩
theorem zmo_30 : zmok 30 := ⟨zt3 81 rfl rfl, (zt1 4 rfl rfl), ⟨by decide +kernel, by decide +kernel⟩, by decide +kernel, rfl, by decide, by decide⟩
theorem zmo_31 : zmok 31 := ⟨zt3 85 rfl rfl, (zt1 4 rfl rfl), ⟨by decide +kernel, by decide +kernel⟩, by decide +kernel, rfl, by decide, by decide⟩
theorem zmo_32 : zmok 32 := ⟨zt3 93 rfl rfl, (zt1 4 rfl rfl), ⟨by decide +kernel, by decide +kernel⟩, by decide +kernel, rfl, by decide, by decide⟩
theorem zmo_33 : zmok 33 := ⟨zt3 97 rfl rfl, (zt1 4 rfl rfl), ⟨by decide +kernel, by decide +kernel⟩, by decide +kernel, rfl, by decide, by decide⟩
theorem zmo_34 : zmok 34 := ⟨zt3 105 rfl rfl, (zt1 4 rfl rfl), ⟨by decide +kernel, by decide +kernel⟩, by decide +kernel, rfl, by decide, by decide⟩
theorem zmo_35 : zmok 35 := ⟨zt3 109 rfl rfl, (zt1 4 rfl rfl), ⟨by decide +kernel, by decide +kernel⟩, by decide +kernel, rfl, by decide, by decide⟩
theorem zmo_36 : zmok 36 := ⟨zt3 113 rfl rfl, (zt1 4 rfl rfl), ⟨by decide +kernel, by decide +kernel⟩, by decide +kernel, rfl, by decide, by decide⟩
theorem zmo_37 : zmok 37 := ⟨zt3 121 rfl rfl, (zt1 4 rfl rfl), ⟨by decide +kernel, by decide +kernel⟩, by decide +kernel, rfl, by decide, by decide⟩
theorem zmo_38 : zmok 38 := ⟨zt3 61 rfl rfl, (zt1 4 rfl rfl), ⟨by decide +kernel, by decide +kernel⟩, by decide +kernel, rfl, by decide, by decide⟩
theorem zmo_39 : zmok 39 := ⟨zt3 69 rfl rfl, (zt1 4 rfl rfl), ⟨by decide +kernel, by decide +kernel⟩, by decide +kernel, rfl, by decide, by decide⟩
theorem zmo_40 : zmok 40 := ⟨zt3 73 rfl rfl, (zt1 4 rfl rfl), ⟨by decide +kernel, by decide +kernel⟩, by decide +kernel, rfl, by decide, by decide⟩
theorem zmo_41 : zmok 41 := ⟨zt3 101 rfl rfl, (zt1 4 rfl rfl), ⟨by decide +kernel, by decide +kernel⟩, by decide +kernel, rfl, by decide, by decide⟩
theorem zmo_42 : zmok 42 := ⟨zt3 89 rfl rfl, (zt1 4 rfl rfl), ⟨by decide +kernel, by decide +kernel⟩, by decide +kernel, rfl, by decide, by decide⟩
theorem zmo_43 : zmok 43 := ⟨zt3 77 rfl rfl, (zt1 4 rfl rfl), ⟨by decide +kernel, by decide +kernel⟩, by decide +kernel, rfl, by decide, by decide⟩
theorem zmo_44 : zmok 44 := ⟨zt3 65 rfl rfl, (zt1 4 rfl rfl), ⟨by decide +kernel, by decide +kernel⟩, by decide +kernel, rfl, by decide, by decide⟩
theorem zmo_45 : zmok 45 := ⟨zt1 196 rfl rfl, (zt1 9 rfl rfl), ⟨by decide +kernel, by decide +kernel⟩, by decide +kernel, rfl, by decide, by decide⟩
theorem zmo_46 : zmok 46 := ⟨zt3 149 rfl rfl, (zt1 9 rfl rfl), ⟨by decide +kernel, by decide +kernel⟩, by decide +kernel, rfl, by decide, by decide⟩
theorem zmo_47 : zmok 47 := ⟨zt3 153 rfl rfl, (zt1 9 rfl rfl), ⟨by decide +kernel, by decide +kernel⟩, by decide +kernel, rfl, by decide, by decide⟩
theorem zmo_48 : zmok 48 := ⟨zt3 158 rfl rfl, (zt1 9 rfl rfl), ⟨by decide +kernel, by decide +kernel⟩, by decide +kernel, rfl, by decide, by decide⟩
theorem zmo_49 : zmok 49 := ⟨zt3 167 rfl rfl, (zt1 9 rfl rfl), ⟨by decide +kernel, by decide +kernel⟩, by decide +kernel, rfl, by decide, by decide⟩
theorem zmo_50 : zmok 50 := ⟨zt3 163 rfl rfl, (zt1 9 rfl rfl), ⟨by decide +kernel, by decide +kernel⟩, by decide +kernel, rfl, by decide, by decide⟩
theorem zmo_51 : zmok 51 := ⟨zt3 172 rfl rfl, (zt1 9 rfl rfl), ⟨by decide +kernel, by decide +kernel⟩, by decide +kernel, rfl, by decide, by decide⟩
theorem zmo_52 : zmok 52 := ⟨zt3 181 rfl rfl, (zt1 9 rfl rfl), ⟨by decide +kernel, by decide +kernel⟩, by decide +kernel, rfl, by decide, by decide⟩
theorem zmo_53 : zmok 53 := ⟨zt3 190 rfl rfl, (zt1 9 rfl rfl), ⟨by decide +kernel, by decide +kernel⟩, by decide +kernel, rfl, by decide, by decide⟩
theorem zmo_54 : zmok 54 := ⟨zt3 195 rfl rfl, (zt1 9 rfl rfl), ⟨by decide +kernel, by decide +kernel⟩, by decide +kernel, rfl, by decide, by decide⟩
theorem zmo_55 : zmok 55 := ⟨zt3 203 rfl rfl, (zt1 9 rfl rfl), ⟨by decide +kernel, by decide +kernel⟩, by decide +kernel, rfl, by decide, by decide⟩
theorem zmo_56 : zmok 56 := ⟨zt3 232 rfl rfl, (zt1 9 rfl rfl), ⟨by decide +kernel, by decide +kernel⟩, by decide +kernel, rfl, by decide, by decide⟩
theorem zmo_57 : zmok 57 := ⟨zt1 145 rfl rfl, (zt1 6 rfl rfl), ⟨by decide +kernel, by decide +kernel⟩, by decide +kernel, rfl, by decide, by decide⟩
theorem zmo_58 : zmok 58 := ⟨zt2 223 rfl rfl, (zt1 6 rfl rfl), ⟨by decide +kernel, by decide +kernel⟩, by decide +kernel, rfl, by decide, by decide⟩
theorem zmo_59 : zmok 59 := ⟨zt3 137 rfl rfl, (zt1 6 rfl rfl), ⟨by decide +kernel, by decide +kernel⟩, by decide +kernel, rfl, by decide, by decide⟩
theorem zmo_60 : zmok 60 := ⟨zt3 33 rfl rfl, (zt1 6 rfl rfl), ⟨by decide +kernel, by decide +kernel⟩, by decide +kernel, rfl, by decide, by decide⟩
theorem zmo_61 : zmok 61 := ⟨zt3 133 rfl rfl, (zt1 6 rfl rfl), ⟨by decide +kernel, by decide +kernel⟩, by decide +kernel, rfl, by decide, by decide⟩
theorem zmo_62 : zmok 62 := ⟨zt1 179 rfl rfl, (zt1 8 rfl rfl), ⟨by decide +kernel, by decide +kernel⟩, by decide +kernel, rfl, by decide, by decide⟩
theorem zmo_63 : zmok 63 := ⟨zt3 220 rfl rfl, (zt1 8 rfl rfl), ⟨by decide +kernel, by decide +kernel⟩, by decide +kernel, rfl, by decide, by decide⟩
theorem zmo_64 : zmok 64 := ⟨zt3 236 rfl rfl, (zt1 8 rfl rfl), ⟨by decide +kernel, by decide +kernel⟩, by decide +kernel, rfl, by decide, by decide⟩
theorem zmo_65 : zmok 65 := ⟨zt1 28 rfl rfl, (zt1 2 rfl rfl), ⟨by decide +kernel, by decide +kernel⟩, by decide +kernel, rfl, by decide, by decide⟩
theorem zmo_66 : zmok 66 := ⟨zt2 162 rfl rfl, (zt1 2 rfl rfl), ⟨by decide +kernel, by decide +kernel⟩, by decide +kernel, rfl, by decide, by decide⟩
theorem zmo_67 : zmok 67 := ⟨zt2 199 rfl rfl, (zt1 2 rfl rfl), ⟨by decide +kernel, by decide +kernel⟩, by decide +kernel, rfl, by decide, by decide⟩
theorem zmo_68 : zmok 68 := ⟨zt3 57 rfl rfl, (zt1 2 rfl rfl), ⟨by decide +kernel, by decide +kernel⟩, by decide +kernel, rfl, by decide, by decide⟩
theorem zmo_69 : zmok 69 := ⟨zt3 45 rfl rfl, (zt1 2 rfl rfl), ⟨by decide +kernel, by decide +kernel⟩, by decide +kernel, rfl, by decide, by decide⟩
theorem zmo_70 : zmok 70 := ⟨zt3 53 rfl rfl, (zt1 2 rfl rfl), ⟨by decide +kernel, by decide +kernel⟩, by decide +kernel, rfl, by decide, by decide⟩
theorem zmo_71 : zmok 71 := ⟨zt3 49 rfl rfl, (zt1 2 rfl rfl), ⟨by decide +kernel, by decide +kernel⟩, by decide +kernel, rfl, by decide, by decide⟩
theorem zmo_72 : zmok 72 := ⟨zt1 20 rfl rfl, (zt1 1 rfl rfl), ⟨by decide +kernel, by decide +kernel⟩, by decide +kernel, rfl, by decide, by decide⟩
theorem zmo_73 : zmok 73 := ⟨zt2 49 rfl rfl, (zt1 1 rfl rfl), ⟨by decide +kernel, by decide +kernel⟩, by decide +kernel, rfl, by decide, by decide⟩
theorem zmo_74 : zmok 74 := ⟨zt2 53 rfl rfl, (zt1 1 rfl rfl), ⟨by decide +kernel, by decide +kernel⟩, by decide +kernel, rfl, by decide, by decide⟩
theorem zmo_75 : zmok 75 := ⟨zt2 57 rfl rfl, (zt1 1 rfl rfl), ⟨by decide +kernel, by decide +kernel⟩, by decide +kernel, rfl, by decide, by decide⟩
theorem zmo_76 : zmok 76 := ⟨zt2 228 rfl rfl, (zt1 1 rfl rfl), ⟨by decide +kernel, by decide +kernel⟩, by decide +kernel, rfl, by decide, by decide⟩
theorem zmo_77 : zmok 77 := ⟨zt3 2 rfl rfl, (zt1 1 rfl rfl), ⟨by decide +kernel, by decide +kernel⟩, by decide +kernel, rfl, by decide, by decide⟩
theorem zmo_78 : zmok 78 := ⟨zt3 21 rfl rfl, (zt1 1 rfl rfl), ⟨by decide +kernel, by decide +kernel⟩, by decide +kernel, rfl, by decide, by decide⟩
theorem zmo_79 : zmok 79 := ⟨zt3 25 rfl rfl, (zt1 1 rfl rfl), ⟨by decide +kernel, by decide +kernel⟩, by decide +kernel, rfl, by decide, by decide⟩
theorem zmo_80 : zmok 80 := ⟨zt3 125 rfl rfl, (zt1 1 rfl rfl), ⟨by decide +kernel, by decide +kernel⟩, by decide +kernel, rfl, by decide, by decide⟩
theorem zmo_81 : zmok 81 := ⟨zt3 145 rfl rfl, (zt1 1 rfl rfl), ⟨by decide +kernel, by decide +kernel⟩, by decide +kernel, rfl, by decide, by decide⟩
theorem zmo_82 : zmok 82 := ⟨zt3 199 rfl rfl, (zt1 1 rfl rfl), ⟨by decide +kernel, by decide +kernel⟩, by decide +kernel, rfl, by decide, by decide⟩
theorem zmo_83 : zmok 83 := ⟨zt3 208 rfl rfl, (zt1 1 rfl rfl), ⟨by decide +kernel, by decide +kernel⟩, by decide +kernel, rfl, by decide, by decide⟩
theorem zmo_84 : zmok 84 := ⟨zt3 212 rfl rfl, (zt1 1 rfl rfl), ⟨by decide +kernel, by decide +kernel⟩, by decide +kernel, rfl, by decide, by decide⟩
theorem zmo_85 : zmok 85 := ⟨zt3 216 rfl rfl, (zt1 1 rfl rfl), ⟨by decide +kernel, by decide +kernel⟩, by decide +kernel, rfl, by decide, by decide⟩
theorem zmo_86 : zmok 86 := ⟨zt3 224 rfl rfl, (zt1 1 rfl rfl), ⟨by decide +kernel, by decide +kernel⟩, by decide +kernel, rfl, by decide, by decide⟩
theorem zmo_87 : zmok 87 := ⟨zt3 228 rfl rfl, (zt1 1 rfl rfl), ⟨by decide +kernel, by decide +kernel⟩, by decide +kernel, rfl, by decide, by decide⟩
theorem zmo_88 : zmok 88 := ⟨zt4 1 rfl rfl, (zt1 1 rfl rfl), ⟨by decide +kernel, by decide +kernel⟩, by decide +kernel, rfl, by decide, by decide⟩
theorem zmo_89 : zmok 89 := ⟨zt4 6 rfl rfl, (zt1 1 rfl rfl), ⟨by decide +kernel, by decide +kernel⟩, by decide +kernel, rfl, by decide, by decide⟩
theorem zmo_90 : zmok 90 := ⟨zt4 12 rfl rfl, (zt1 1 rfl rfl), ⟨by decide +kernel, by decide +kernel⟩, by decide +kernel, rfl, by decide, by decide⟩
theorem zmo_91 : zmok 91 := ⟨zt3 6 rfl rfl, (zt1 1 rfl rfl), ⟨by decide +kernel, by decide +kernel⟩, by decide +kernel, rfl, by decide, by decide⟩
theorem zmo_92 : zmok 92 := ⟨zt2 181 rfl rfl, (zt1 1 rfl rfl), ⟨by decide +kernel, by decide +kernel⟩, by decide +kernel, rfl, by decide, by decide⟩
theorem zmo_93 : zmok 93 := ⟨zt2 202 rfl rfl, (zt1 1 rfl rfl), ⟨by decide +kernel, by decide +kernel⟩, by decide +kernel, rfl, by decide, by decide⟩
theorem zmo_94 : zmok 94 := ⟨zt4 17 rfl rfl, (zt1 10 rfl rfl), ⟨by decide +kernel, by decide +kernel⟩, by decide +kernel, rfl, by decide, by decide⟩
theorem zmo_95 : zmok 95 := ⟨zt4 160 rfl rfl, (zt1 10 rfl rfl), ⟨by decide +kernel, by decide +kernel⟩, by decide +kernel, rfl, by decide, by decide⟩
theorem zmo_96 : zmok 96 := ⟨zt4 208 rfl rfl, (zt1 10 rfl rfl), ⟨by decide +kernel, by decide +kernel⟩, by decide +kernel, rfl, by decide, by decide⟩
theorem zmo_97 : zmok 97 := ⟨zt4 218 rfl rfl, (zt1 10 rfl rfl), ⟨by decide +kernel, by decide +kernel⟩, by decide +kernel, rfl, by decide, by decide⟩
theorem zmo_98 : zmok 98 := ⟨zt4 235 rfl rfl, (zt1 10 rfl rfl), ⟨by decide +kernel, by decide +kernel⟩, by decide +kernel, rfl, by decide, by decide⟩
theorem zmo_99 : zmok 99 := ⟨zt5 43 rfl rfl, (zt1 10 rfl rfl), ⟨by decide +kernel, by decide +kernel⟩, by decide +kernel, rfl, by decide, by decide⟩
theorem zmo_100 : zmok 100 := ⟨zt4 22 rfl rfl, (zt1 10 rfl rfl), ⟨by decide +kernel, by decide +kernel⟩, by decide +kernel, rfl, by decide, by decide⟩
theorem zmo_101 : zmok 101 := ⟨zt5 3 rfl rfl, (zt1 10 rfl rfl), ⟨by decide +kernel, by decide +kernel⟩, by decide +kernel, rfl, by decide, by decide⟩
theorem zmo_102 : zmok 102 := ⟨zt5 7 rfl rfl, (zt1 10 rfl rfl), ⟨by decide +kernel, by decide +kernel⟩, by decide +kernel, rfl, by decide, by decide⟩
theorem zmo_103 : zmok 103 := ⟨zt5 15 rfl rfl, (zt1 10 rfl rfl), ⟨by decide +kernel, by decide +kernel⟩, by decide +kernel, rfl, by decide, by decide⟩
theorem zmo_104 : zmok 104 := ⟨zt4 222 rfl rfl, (zt1 10 rfl rfl), ⟨by decide +kernel, by decide +kernel⟩, by decide +kernel, rfl, by decide, by decide⟩
theorem zmo_105 : zmok 105 := ⟨zt5 31 rfl rfl, (zt1 10 rfl rfl), ⟨by decide +kernel, by decide +kernel⟩, by decide +kernel, rfl, by decide, by decide⟩
theorem zmo_106 : zmok 106 := ⟨zt5 11 rfl rfl, (zt1 10 rfl rfl), ⟨by decide +kernel, by decide +kernel⟩, by decide +kernel, rfl, by decide, by decide⟩
theorem zmo_107 : zmok 107 := ⟨zt5 19 rfl rfl, (zt1 10 rfl rfl), ⟨by decide +kernel, by decide +kernel⟩, by decide +kernel, rfl, by decide, by decide⟩
theorem zmo_108 : zmok 108 := ⟨zt5 27 rfl rfl, (zt1 10 rfl rfl), ⟨by decide +kernel, by decide +kernel⟩, by decide +kernel, rfl, by decide, by decide⟩
theorem zmo_109 : zmok 109 := ⟨zt5 23 rfl rfl, (zt1 10 rfl rfl), ⟨by decide +kernel, by decide +kernel⟩, by decide +kernel, rfl, by decide, by decide⟩
theorem zmo_110 : zmok 110 := ⟨zt5 35 rfl rfl, (zt1 10 rfl rfl), ⟨by decide +kernel, by decide +kernel⟩, by decide +kernel, rfl, by decide, by decide⟩
theorem zmo_111 : zmok 111 := ⟨zt4 239 rfl rfl, (zt1 10 rfl rfl), ⟨by decide +kernel, by decide +kernel⟩, by decide +kernel, rfl, by decide, by decide⟩
theorem zmo_112 : zmok 112 := ⟨zt4 156 rfl rfl, (zt1 10 rfl rfl), ⟨by decide +kernel, by decide +kernel⟩, by decide +kernel, rfl, by decide, by decide⟩
theorem zmo_113 : zmok 113 := ⟨zt4 164 rfl rfl, (zt1 10 rfl rfl), ⟨by decide +kernel, by decide +kernel⟩, by decide +kernel, rfl, by decide, by decide⟩
theorem zmo_114 : zmok 114 := ⟨zt4 172 rfl rfl, (zt1 10 rfl rfl), ⟨by decide +kernel, by decide +kernel⟩, by decide +kernel, rfl, by decide, by decide⟩
theorem zmo_115 : zmok 115 := ⟨zt4 186 rfl rfl, (zt1 10 rfl rfl), ⟨by decide +kernel, by decide +kernel⟩, by decide +kernel, rfl, by decide, by decide⟩
theorem zmo_116 : zmok 116 := ⟨zt4 197 rfl rfl, (zt1 10 rfl rfl), ⟨by decide +kernel, by decide +kernel⟩, by decide +kernel, rfl, by decide, by decide⟩
theorem zmo_117 : zmok 117 := ⟨zt4 201 rfl rfl, (zt1 10 rfl rfl), ⟨by decide +kernel, by decide +kernel⟩, by decide +kernel, rfl, by decide, by decide⟩
theorem zmo_118 : zmok 118 := ⟨zt4 189 rfl rfl, (zt1 10 rfl rfl), ⟨by decide +kernel, by decide +kernel⟩, by decide +kernel, rfl, by decide, by decide⟩
theorem zmo_119 : zmok 119 := ⟨zt4 193 rfl rfl, (zt1 10 rfl rfl), ⟨by decide +kernel, by decide +kernel⟩, by decide +kernel, rfl, by decide, by decide⟩
theorem zmo_120 : zmok 120 := ⟨zt4 182 rfl rfl, (zt1 10 rfl rfl), ⟨by decide +kernel, by decide +kernel⟩, by decide +kernel, rfl, by decide, by decide⟩
theorem zmo_121 : zmok 121 := ⟨zt4 178 rfl rfl, (zt1 10 rfl rfl), ⟨by decide +kernel, by decide +kernel⟩, by decide +kernel, rfl, by decide, by decide⟩
theorem zmo_122 : zmok 122 := ⟨zt4 168 rfl rfl, (zt1 10 rfl rfl), ⟨by decide +kernel, by decide +kernel⟩, by decide +kernel, rfl, by decide, by decide⟩
theorem zmo_123 : zmok 123 := ⟨zt4 205 rfl rfl, (zt1 10 rfl rfl), ⟨by decide +kernel, by decide +kernel⟩, by decide +kernel, rfl, by decide, by decide⟩
theorem zmo_124 : zmok 124 := ⟨zt4 214 rfl rfl, (zt1 10 rfl rfl), ⟨by decide +kernel, by decide +kernel⟩, by decide +kernel, rfl, by decide, by decide⟩
theorem zmo_125 : zmok 125 := ⟨zt4 227 rfl rfl, (zt1 10 rfl rfl), ⟨by decide +kernel, by decide +kernel⟩, by decide +kernel, rfl, by decide, by decide⟩
theorem zmo_126 : zmok 126 := ⟨zt4 231 rfl rfl, (zt1 10 rfl rfl), ⟨by decide +kernel, by decide +kernel⟩, by decide +kernel, rfl, by decide, by decide⟩
theorem zmo_127 : zmok 127 := ⟨zt5 39 rfl rfl, (zt1 10 rfl rfl), ⟨by decide +kernel, by decide +kernel⟩, by decide +kernel, rfl, by decide, by decide⟩
theorem zmo_128 : zmok 128 := ⟨zt5 66 rfl rfl, (zt1 10 rfl rfl), ⟨by decide +kernel, by decide +kernel⟩, by decide +kernel, rfl, by decide, by decide⟩
theorem zmo_129 : zmok 129 := ⟨zt5 74 rfl rfl, (zt1 10 rfl rfl), ⟨by decide +kernel, by decide +kernel⟩, by decide +kernel, rfl, by decide, by decide⟩
theorem zmo_130 : zmok 130 := ⟨zt5 60 rfl rfl, (zt1 10 rfl rfl), ⟨by decide +kernel, by decide +kernel⟩, by decide +kernel, rfl, by decide, by decide⟩
theorem zmo_131 : zmok 131 := ⟨zt5 56 rfl rfl, (zt1 10 rfl rfl), ⟨by decide +kernel, by decide +kernel⟩, by decide +kernel, rfl, by decide, by decide⟩
theorem zmo_132 : zmok 132 := ⟨zt5 78 rfl rfl, (zt1 10 rfl rfl), ⟨by decide +kernel, by decide +kernel⟩, by decide +kernel, rfl, by decide, by decide⟩
theorem zmo_133 : zmok 133 := ⟨zt5 70 rfl rfl, (zt1 10 rfl rfl), ⟨by decide +kernel, by decide +kernel⟩, by decide +kernel, rfl, by decide, by decide⟩
theorem zmo_134 : zmok 134 := ⟨zt5 52 rfl rfl, (zt1 10 rfl rfl), ⟨by decide +kernel, by decide +kernel⟩, by decide +kernel, rfl, by decide, by decide⟩
theorem zmo_135 : zmok 135 := ⟨zt5 47 rfl rfl, (zt1 10 rfl rfl), ⟨by decide +kernel, by decide +kernel⟩, by decide +kernel, rfl, by decide, by decide⟩
theorem zmo_136 : zmok 136 := ⟨zt5 82 rfl rfl, (zt1 10 rfl rfl), ⟨by decide +kernel, by decide +kernel⟩, by decide +kernel, rfl, by decide, by decide⟩
theorem zmo_137 : zmok 137 := ⟨zt5 86 rfl rfl, (zt1 10 rfl rfl), ⟨by decide +kernel, by decide +kernel⟩, by decide +kernel, rfl, by decide, by decide⟩
theorem zmo_138 : zmok 138 := ⟨zt5 90 rfl rfl, (zt1 10 rfl rfl), ⟨by decide +kernel, by decide +kernel⟩, by decide +kernel, rfl, by decide, by decide⟩
theorem zmo_139 : zmok 139 := ⟨zt5 94 rfl rfl, (zt1 10 rfl rfl), ⟨by decide +kernel, by decide +kernel⟩, by decide +kernel, rfl, by decide, by decide⟩
theorem zmo_140 : zmok 140 := ⟨zt5 98 rfl rfl, (zt1 10 rfl rfl), ⟨by decide +kernel, by decide +kernel⟩, by decide +kernel, rfl, by decide, by decide⟩
theorem zmo_141 : zmok 141 := ⟨zt5 102 rfl rfl, (zt1 10 rfl rfl), ⟨by decide +kernel, by decide +kernel⟩, by decide +kernel, rfl, by decide, by decide⟩
theorem zmo_142 : zmok 142 := ⟨zt5 106 rfl rfl, (zt1 10 rfl rfl), ⟨by decide +kernel, by decide +kernel⟩, by decide +kernel, rfl, by decide, by decide⟩
theorem zmo_143 : zmok 143 := ⟨zt5 110 rfl rfl, (zt1 10 rfl rfl), ⟨by decide +kernel, by decide +kernel⟩, by decide +kernel, rfl, by decide, by decide⟩
theorem zmo_144 : zmok 144 := ⟨zt5 118 rfl rfl, (zt1 10 rfl rfl), ⟨by decide +kernel, by decide +kernel⟩, by decide +kernel, rfl, by decide, by decide⟩
theorem zmo_145 : zmok 145 := ⟨zt5 114 rfl rfl, (zt1 10 rfl rfl), ⟨by decide +kernel, by decide +kernel⟩, by decide +kernel, rfl, by decide, by decide⟩
def zcok (c : Nat) (q : Nat × Nat × Nat × Nat) : Prop := match q.2.2.1 with
  | 0 => zmok q.2.1 ∧ Jvm.Cond.methodLink (zRn c) q.1 (zyn q.2.1) ∈ zTB ∧ Jvm.Cond.instanceMethod (zyn q.2.1) ∈ zTB ∧ Jvm.Cond.selects (zyn q.2.1).cls (zyn q.2.1) (zyn q.2.1) ∈ zTB ∧ (parseMethodDescriptor (zyn q.2.1).desc).map (fun d => d.parameters.length) = some q.2.2.2
  | 1 => zmok q.2.1 ∧ Jvm.Cond.methodLink (zRn c) q.1 (zyn q.2.1) ∈ zTB ∧ Jvm.Cond.static (zyn q.2.1) ∈ zTB ∧ (parseMethodDescriptor (zyn q.2.1).desc).map (fun d => d.parameters.length) = some q.2.2.2
  | 2 => zmok q.2.1 ∧ Jvm.Cond.methodLink (zRn c) q.1 (zyn q.2.1) ∈ zTB ∧ Jvm.Cond.instanceMethod (zyn q.2.1) ∈ zTB ∧ (zyn q.2.1).name = "<init>" ∧ zrt q.2.1 = none ∧ (parseMethodDescriptor (zyn q.2.1).desc).map (fun d => d.parameters.length) = some q.2.2.2
  | 11 => zmok q.2.1 ∧ Jvm.Cond.methodLinkNest (zRn c) q.1 (zyn q.2.1) RX7 ∈ zNW ∧ Jvm.Cond.static (zyn q.2.1) ∈ zTB ∧ (parseMethodDescriptor (zyn q.2.1).desc).map (fun d => d.parameters.length) = some q.2.2.2
  | 12 => zmok q.2.1 ∧ Jvm.Cond.methodLinkNest (zRn c) q.1 (zyn q.2.1) RX7 ∈ zNW ∧ Jvm.Cond.instanceMethod (zyn q.2.1) ∈ zTB ∧ (zyn q.2.1).name = "<init>" ∧ zrt q.2.1 = none ∧ (parseMethodDescriptor (zyn q.2.1).desc).map (fun d => d.parameters.length) = some q.2.2.2
  | 20 => Jvm.Cond.methodLink (zRn c) q.1 objectInit ∈ zTB ∧ Jvm.Cond.instanceMethod objectInit ∈ zTB ∧ Jvm.Cond.code objectInit ⟨#[0xb1]⟩ 1 none ∈ zTB
  | 21 => Jvm.Cond.methodLink (zRn c) q.1 Lib.Math.max.name ∈ zTB ∧ Jvm.Cond.static Lib.Math.max.name ∈ zTB ∧ Jvm.Cond.initialized "java/lang/Math" ∈ zTB ∧ Jvm.Cond.code Lib.Math.max.name Lib.Math.max.code 2 (some .int) ∈ zTB
  | 22 => Jvm.Cond.methodLink (zRn c) q.1 Lib.Math.min.name ∈ zTB ∧ Jvm.Cond.static Lib.Math.min.name ∈ zTB ∧ Jvm.Cond.initialized "java/lang/Math" ∈ zTB ∧ Jvm.Cond.code Lib.Math.min.name Lib.Math.min.code 2 (some .int) ∈ zTB
  | 23 => Jvm.Cond.methodLink (zRn c) q.1 yJ0_indexOf_0f7a4 ∈ zTB
  | _ => False
theorem zml_0 : ∀ q ∈ zML 0, zcok 0 q := (List.forall_mem_cons.mpr ⟨⟨(zt1 140 rfl rfl), (zt1 22 rfl rfl), (zt1 23 rfl rfl)⟩, (List.forall_mem_cons.mpr ⟨⟨zmo_57, (zt1 143 rfl rfl), (zt1 144 rfl rfl), by decide +kernel, rfl, by decide +kernel⟩, (List.forall_mem_cons.mpr ⟨⟨zmo_60, (zt3 30 rfl rfl), (zt3 31 rfl rfl), (zt3 32 rfl rfl), by decide +kernel⟩, (List.forall_mem_cons.mpr ⟨⟨zmo_61, (zt3 130 rfl rfl), (zt3 131 rfl rfl), (zt3 132 rfl rfl), by decide +kernel⟩, (fun _ h => absurd h List.not_mem_nil)⟩)⟩)⟩)⟩)
theorem zml_1 : ∀ q ∈ zML 1, zcok 1 q := (List.forall_mem_cons.mpr ⟨⟨(zt1 66 rfl rfl), (zt1 22 rfl rfl), (zt1 23 rfl rfl)⟩, (List.forall_mem_cons.mpr ⟨⟨(zt2 62 rfl rfl), (zt2 63 rfl rfl), (zt1 7 rfl rfl), (zt2 64 rfl rfl)⟩, (List.forall_mem_cons.mpr ⟨⟨zmo_6, (zt2 65 rfl rfl), (zt2 67 rfl rfl), (zts 0 rfl), by decide +kernel⟩, (List.forall_mem_cons.mpr ⟨⟨zmo_66, (zt2 159 rfl rfl), (zt2 160 rfl rfl), (zt2 161 rfl rfl), by decide +kernel⟩, (List.forall_mem_cons.mpr ⟨⟨zmo_9, (zt2 163 rfl rfl), (zt2 165 rfl rfl), (zts 2 rfl), by decide +kernel⟩, (List.forall_mem_cons.mpr ⟨⟨zmo_11, (zt2 167 rfl rfl), (zt2 169 rfl rfl), (zts 3 rfl), by decide +kernel⟩, (List.forall_mem_cons.mpr ⟨⟨zmo_10, (zt2 208 rfl rfl), (zt2 210 rfl rfl), (zts 10 rfl), by decide +kernel⟩, (List.forall_mem_cons.mpr ⟨⟨zmo_7, (zt2 69 rfl rfl), (zt2 70 rfl rfl), by decide +kernel⟩, (List.forall_mem_cons.mpr ⟨⟨zmo_8, (zt2 155 rfl rfl), (zt2 157 rfl rfl), (zts 1 rfl), by decide +kernel⟩, (List.forall_mem_cons.mpr ⟨(zt2 73 rfl rfl), (List.forall_mem_cons.mpr ⟨⟨zmo_12, (zt2 171 rfl rfl), (zt2 173 rfl rfl), (zts 4 rfl), by decide +kernel⟩, (List.forall_mem_cons.mpr ⟨⟨zmo_14, (zt2 186 rfl rfl), (zt2 188 rfl rfl), (zts 7 rfl), by decide +kernel⟩, (List.forall_mem_cons.mpr ⟨⟨zmo_13, (zt2 203 rfl rfl), (zt2 205 rfl rfl), (zts 9 rfl), by decide +kernel⟩, (List.forall_mem_cons.mpr ⟨⟨zmo_16, (zt2 175 rfl rfl), (zt2 177 rfl rfl), (zts 5 rfl), by decide +kernel⟩, (List.forall_mem_cons.mpr ⟨⟨zmo_92, (zn2 179 rfl rfl), (zt2 180 rfl rfl), by decide +kernel⟩, (List.forall_mem_cons.mpr ⟨⟨zmo_17, (zt2 182 rfl rfl), (zt2 184 rfl rfl), (zts 6 rfl), by decide +kernel⟩, (List.forall_mem_cons.mpr ⟨⟨zmo_93, (zn2 207 rfl rfl), (zt2 201 rfl rfl), by decide +kernel⟩, (List.forall_mem_cons.mpr ⟨⟨zmo_15, (zt2 190 rfl rfl), (zt2 192 rfl rfl), (zts 8 rfl), by decide +kernel⟩, (List.forall_mem_cons.mpr ⟨⟨zmo_67, (zt2 196 rfl rfl), (zt2 197 rfl rfl), (zt2 198 rfl rfl), by decide +kernel⟩, (fun _ h => absurd h List.not_mem_nil)⟩)⟩)⟩)⟩)⟩)⟩)⟩)⟩)⟩)⟩)⟩)⟩)⟩)⟩)⟩)⟩)⟩)⟩)⟩)
theorem zml_2 : ∀ q ∈ zML 2, zcok 2 q := (List.forall_mem_cons.mpr ⟨⟨(zt1 85 rfl rfl), (zt1 22 rfl rfl), (zt1 23 rfl rfl)⟩, (List.forall_mem_cons.mpr ⟨⟨zmo_22, (zt3 186 rfl rfl), (zt3 175 rfl rfl), (zt3 176 rfl rfl), by decide +kernel⟩, (List.forall_mem_cons.mpr ⟨⟨zmo_28, (zt2 234 rfl rfl), (zt2 236 rfl rfl), (zts 11 rfl), by decide +kernel⟩, (List.forall_mem_cons.mpr ⟨⟨zmo_26, (zt3 12 rfl rfl), (zt3 14 rfl rfl), (zts 13 rfl), by decide +kernel⟩, (List.forall_mem_cons.mpr ⟨⟨zmo_93, (zn2 238 rfl rfl), (zt2 201 rfl rfl), by decide +kernel⟩, (List.forall_mem_cons.mpr ⟨⟨zmo_92, (zn3 16 rfl rfl), (zt2 180 rfl rfl), by decide +kernel⟩, (List.forall_mem_cons.mpr ⟨⟨(zt3 17 rfl rfl), (zt1 148 rfl rfl), (zt1 7 rfl rfl), (zt1 149 rfl rfl)⟩, (List.forall_mem_cons.mpr ⟨⟨zmo_69, (zt3 42 rfl rfl), (zt3 43 rfl rfl), (zt3 44 rfl rfl), by decide +kernel⟩, (List.forall_mem_cons.mpr ⟨⟨zmo_70, (zt3 50 rfl rfl), (zt3 51 rfl rfl), (zt3 52 rfl rfl), by decide +kernel⟩, (List.forall_mem_cons.mpr ⟨⟨zmo_68, (zt3 54 rfl rfl), (zt3 55 rfl rfl), (zt3 56 rfl rfl), by decide +kernel⟩, (List.forall_mem_cons.mpr ⟨⟨zmo_38, (zt3 58 rfl rfl), (zt3 60 rfl rfl), (zts 15 rfl), by decide +kernel⟩, (List.forall_mem_cons.mpr ⟨⟨zmo_30, (zt3 78 rfl rfl), (zt3 80 rfl rfl), (zts 20 rfl), by decide +kernel⟩, (List.forall_mem_cons.mpr ⟨⟨zmo_31, (zt3 82 rfl rfl), (zt3 84 rfl rfl), (zts 21 rfl), by decide +kernel⟩, (List.forall_mem_cons.mpr ⟨⟨zmo_32, (zt3 90 rfl rfl), (zt3 92 rfl rfl), (zts 23 rfl), by decide +kernel⟩, (List.forall_mem_cons.mpr ⟨⟨zmo_33, (zt3 94 rfl rfl), (zt3 96 rfl rfl), (zts 24 rfl), by decide +kernel⟩, (List.forall_mem_cons.mpr ⟨⟨zmo_34, (zt3 102 rfl rfl), (zt3 104 rfl rfl), (zts 26 rfl), by decide +kernel⟩, (List.forall_mem_cons.mpr ⟨⟨zmo_35, (zt3 106 rfl rfl), (zt3 108 rfl rfl), (zts 27 rfl), by decide +kernel⟩, (List.forall_mem_cons.mpr ⟨⟨zmo_37, (zt3 118 rfl rfl), (zt3 120 rfl rfl), (zts 30 rfl), by decide +kernel⟩, (List.forall_mem_cons.mpr ⟨⟨zmo_44, (zt3 62 rfl rfl), (zt3 64 rfl rfl), (zts 16 rfl), by decide +kernel⟩, (List.forall_mem_cons.mpr ⟨⟨zmo_42, (zt3 86 rfl rfl), (zt3 88 rfl rfl), (zts 22 rfl), by decide +kernel⟩, (List.forall_mem_cons.mpr ⟨⟨zmo_41, (zt3 98 rfl rfl), (zt3 100 rfl rfl), (zts 25 rfl), by decide +kernel⟩, (List.forall_mem_cons.mpr ⟨⟨zmo_43, (zt3 74 rfl rfl), (zt3 76 rfl rfl), (zts 19 rfl), by decide +kernel⟩, (List.forall_mem_cons.mpr ⟨⟨zmo_40, (zt3 70 rfl rfl), (zt3 72 rfl rfl), (zts 18 rfl), by decide +kernel⟩, (List.forall_mem_cons.mpr ⟨⟨zmo_36, (zt3 110 rfl rfl), (zt3 112 rfl rfl), (zts 28 rfl), by decide +kernel⟩, (List.forall_mem_cons.mpr ⟨⟨zmo_27, (zt3 114 rfl rfl), (zt3 116 rfl rfl), (zts 29 rfl), by decide +kernel⟩, (List.forall_mem_cons.mpr ⟨⟨zmo_39, (zt3 66 rfl rfl), (zt3 68 rfl rfl), (zts 17 rfl), by decide +kernel⟩, (fun _ h => absurd h List.not_mem_nil)⟩)⟩)⟩)⟩)⟩)⟩)⟩)⟩)⟩)⟩)⟩)⟩)⟩)⟩)⟩)⟩)⟩)⟩)⟩)⟩)⟩)⟩)⟩)⟩)⟩)⟩)
theorem zml_3 : ∀ q ∈ zML 3, zcok 3 q := (List.forall_mem_cons.mpr ⟨⟨(zt1 197 rfl rfl), (zt1 22 rfl rfl), (zt1 23 rfl rfl)⟩, (List.forall_mem_cons.mpr ⟨⟨zmo_18, (zn1 199 rfl rfl), (zt1 83 rfl rfl), by decide +kernel, rfl, by decide +kernel⟩, (List.forall_mem_cons.mpr ⟨⟨zmo_47, (zt3 150 rfl rfl), (zt3 152 rfl rfl), (zts 31 rfl), by decide +kernel⟩, (List.forall_mem_cons.mpr ⟨⟨zmo_20, (zt3 154 rfl rfl), (zt3 35 rfl rfl), (zt3 36 rfl rfl), by decide +kernel⟩, (List.forall_mem_cons.mpr ⟨⟨zmo_48, (zt3 155 rfl rfl), (zt3 157 rfl rfl), (zts 32 rfl), by decide +kernel⟩, (List.forall_mem_cons.mpr ⟨⟨zmo_21, (zt3 168 rfl rfl), (zt3 139 rfl rfl), (zt3 140 rfl rfl), by decide +kernel⟩, (List.forall_mem_cons.mpr ⟨⟨zmo_51, (zt3 169 rfl rfl), (zt3 171 rfl rfl), (zts 35 rfl), by decide +kernel⟩, (List.forall_mem_cons.mpr ⟨⟨zmo_29, (zt3 191 rfl rfl), (zt3 39 rfl rfl), (zt3 40 rfl rfl), by decide +kernel⟩, (List.forall_mem_cons.mpr ⟨⟨zmo_50, (zt3 160 rfl rfl), (zt3 162 rfl rfl), (zts 33 rfl), by decide +kernel⟩, (List.forall_mem_cons.mpr ⟨⟨zmo_49, (zt3 164 rfl rfl), (zt3 166 rfl rfl), (zts 34 rfl), by decide +kernel⟩, (List.forall_mem_cons.mpr ⟨⟨zmo_93, (zn3 173 rfl rfl), (zt2 201 rfl rfl), by decide +kernel⟩, (List.forall_mem_cons.mpr ⟨⟨zmo_22, (zt3 174 rfl rfl), (zt3 175 rfl rfl), (zt3 176 rfl rfl), by decide +kernel⟩, (List.forall_mem_cons.mpr ⟨⟨zmo_52, (zt3 178 rfl rfl), (zt3 180 rfl rfl), (zts 36 rfl), by decide +kernel⟩, (List.forall_mem_cons.mpr ⟨⟨zmo_23, (zt3 182 rfl rfl), (zt3 183 rfl rfl), (zt3 184 rfl rfl), by decide +kernel⟩, (List.forall_mem_cons.mpr ⟨⟨zmo_53, (zt3 187 rfl rfl), (zt3 189 rfl rfl), (zts 37 rfl), by decide +kernel⟩, (List.forall_mem_cons.mpr ⟨⟨zmo_54, (zt3 204 rfl rfl), (zt3 193 rfl rfl), (zt3 194 rfl rfl), by decide +kernel⟩, (List.forall_mem_cons.mpr ⟨⟨zmo_64, (zt3 233 rfl rfl), (zt3 234 rfl rfl), (zt3 235 rfl rfl), by decide +kernel⟩, (fun _ h => absurd h List.not_mem_nil)⟩)⟩)⟩)⟩)⟩)⟩)⟩)⟩)⟩)⟩)⟩)⟩)⟩)⟩)⟩)⟩)⟩)
theorem zml_4 : ∀ q ∈ zML 4, zcok 4 q := (List.forall_mem_cons.mpr ⟨⟨(zt1 146 rfl rfl), (zt1 22 rfl rfl), (zt1 23 rfl rfl)⟩, (List.forall_mem_cons.mpr ⟨⟨(zt1 147 rfl rfl), (zt1 148 rfl rfl), (zt1 7 rfl rfl), (zt1 149 rfl rfl)⟩, (List.forall_mem_cons.mpr ⟨⟨zmo_20, (zt3 34 rfl rfl), (zt3 35 rfl rfl), (zt3 36 rfl rfl), by decide +kernel⟩, (List.forall_mem_cons.mpr ⟨⟨zmo_59, (zt3 134 rfl rfl), (zt3 135 rfl rfl), (zt3 136 rfl rfl), by decide +kernel⟩, (List.forall_mem_cons.mpr ⟨⟨zmo_21, (zt3 138 rfl rfl), (zt3 139 rfl rfl), (zt3 140 rfl rfl), by decide +kernel⟩, (fun _ h => absurd h List.not_mem_nil)⟩)⟩)⟩)⟩)⟩)
theorem zml_5 : ∀ q ∈ zML 5, zcok 5 q := (List.forall_mem_cons.mpr ⟨⟨(zt1 180 rfl rfl), (zt1 22 rfl rfl), (zt1 23 rfl rfl)⟩, (List.forall_mem_cons.mpr ⟨⟨zmo_92, (zn3 237 rfl rfl), (zt2 180 rfl rfl), by decide +kernel⟩, (fun _ h => absurd h List.not_mem_nil)⟩)⟩)
theorem zml_6 : ∀ q ∈ zML 6, zcok 6 q := (List.forall_mem_cons.mpr ⟨⟨(zt1 29 rfl rfl), (zt1 22 rfl rfl), (zt1 23 rfl rfl)⟩, (List.forall_mem_cons.mpr ⟨⟨zmo_93, (zn2 200 rfl rfl), (zt2 201 rfl rfl), by decide +kernel⟩, (List.forall_mem_cons.mpr ⟨⟨zmo_71, (zt3 46 rfl rfl), (zt3 48 rfl rfl), (zts 14 rfl), by decide +kernel⟩, (fun _ h => absurd h List.not_mem_nil)⟩)⟩)⟩)
theorem zml_7 : ∀ q ∈ zML 7, zcok 7 q := (List.forall_mem_cons.mpr ⟨⟨(zt1 21 rfl rfl), (zt1 22 rfl rfl), (zt1 23 rfl rfl)⟩, (List.forall_mem_cons.mpr ⟨⟨zmo_65, (zn1 26 rfl rfl), (zt1 27 rfl rfl), by decide +kernel, rfl, by decide +kernel⟩, (List.forall_mem_cons.mpr ⟨⟨zmo_4, (zn1 63 rfl rfl), (zt1 64 rfl rfl), by decide +kernel, rfl, by decide +kernel⟩, (List.forall_mem_cons.mpr ⟨⟨zmo_18, (zn1 82 rfl rfl), (zt1 83 rfl rfl), by decide +kernel, rfl, by decide +kernel⟩, (List.forall_mem_cons.mpr ⟨⟨zmo_0, (zn1 137 rfl rfl), (zt1 138 rfl rfl), by decide +kernel, rfl, by decide +kernel⟩, (List.forall_mem_cons.mpr ⟨⟨zmo_57, (zt1 174 rfl rfl), (zt1 144 rfl rfl), by decide +kernel, rfl, by decide +kernel⟩, (List.forall_mem_cons.mpr ⟨⟨zmo_62, (zn1 177 rfl rfl), (zt1 178 rfl rfl), by decide +kernel, rfl, by decide +kernel⟩, (List.forall_mem_cons.mpr ⟨⟨zmo_45, (zn1 194 rfl rfl), (zt1 195 rfl rfl), by decide +kernel, rfl, by decide +kernel⟩, (List.forall_mem_cons.mpr ⟨⟨zmo_5, (zt2 58 rfl rfl), (zt2 59 rfl rfl), (zt2 60 rfl rfl), by decide +kernel⟩, (List.forall_mem_cons.mpr ⟨⟨zmo_19, (zt2 212 rfl rfl), (zt2 213 rfl rfl), (zt2 214 rfl rfl), by decide +kernel⟩, (List.forall_mem_cons.mpr ⟨⟨zmo_1, (zt2 216 rfl rfl), (zt2 217 rfl rfl), (zt2 218 rfl rfl), by decide +kernel⟩, (List.forall_mem_cons.mpr ⟨⟨zmo_58, (zt2 220 rfl rfl), (zt2 221 rfl rfl), (zt2 222 rfl rfl), by decide +kernel⟩, (List.forall_mem_cons.mpr ⟨⟨zmo_92, (zt2 229 rfl rfl), (zt2 180 rfl rfl), by decide +kernel⟩, (List.forall_mem_cons.mpr ⟨⟨zmo_24, (zt2 230 rfl rfl), (zt2 231 rfl rfl), (zt2 232 rfl rfl), by decide +kernel⟩, (List.forall_mem_cons.mpr ⟨⟨zmo_91, (zt3 3 rfl rfl), (zt3 5 rfl rfl), (zts 12 rfl), by decide +kernel⟩, (List.forall_mem_cons.mpr ⟨⟨zmo_25, (zt3 8 rfl rfl), (zt3 9 rfl rfl), (zt3 10 rfl rfl), by decide +kernel⟩, (List.forall_mem_cons.mpr ⟨⟨zmo_2, (zt3 26 rfl rfl), (zt3 27 rfl rfl), (zt3 28 rfl rfl), by decide +kernel⟩, (List.forall_mem_cons.mpr ⟨⟨zmo_29, (zt3 38 rfl rfl), (zt3 39 rfl rfl), (zt3 40 rfl rfl), by decide +kernel⟩, (List.forall_mem_cons.mpr ⟨⟨zmo_3, (zt3 126 rfl rfl), (zt3 127 rfl rfl), (zt3 128 rfl rfl), by decide +kernel⟩, (List.forall_mem_cons.mpr ⟨⟨zmo_46, (zt3 146 rfl rfl), (zt3 147 rfl rfl), (zt3 148 rfl rfl), by decide +kernel⟩, (List.forall_mem_cons.mpr ⟨⟨zmo_54, (zt3 192 rfl rfl), (zt3 193 rfl rfl), (zt3 194 rfl rfl), by decide +kernel⟩, (List.forall_mem_cons.mpr ⟨⟨zmo_55, (zt3 200 rfl rfl), (zt3 201 rfl rfl), (zt3 202 rfl rfl), by decide +kernel⟩, (List.forall_mem_cons.mpr ⟨⟨zmo_63, (zt3 217 rfl rfl), (zt3 218 rfl rfl), (zt3 219 rfl rfl), by decide +kernel⟩, (List.forall_mem_cons.mpr ⟨⟨zmo_56, (zt3 229 rfl rfl), (zt3 230 rfl rfl), (zt3 231 rfl rfl), by decide +kernel⟩, (List.forall_mem_cons.mpr ⟨⟨zmo_60, (zt4 2 rfl rfl), (zt3 31 rfl rfl), (zt3 32 rfl rfl), by decide +kernel⟩, (List.forall_mem_cons.mpr ⟨⟨zmo_59, (zt4 7 rfl rfl), (zt3 135 rfl rfl), (zt3 136 rfl rfl), by decide +kernel⟩, (List.forall_mem_cons.mpr ⟨⟨zmo_61, (zt4 8 rfl rfl), (zt3 131 rfl rfl), (zt3 132 rfl rfl), by decide +kernel⟩, (List.forall_mem_cons.mpr ⟨⟨zmo_93, (zt3 7 rfl rfl), (zt2 201 rfl rfl), by decide +kernel⟩, (fun _ h => absurd h List.not_mem_nil)⟩)⟩)⟩)⟩)⟩)⟩)⟩)⟩)⟩)⟩)⟩)⟩)⟩)⟩)⟩)⟩)⟩)⟩)⟩)⟩)⟩)⟩)⟩)⟩)⟩)⟩)⟩)⟩)
theorem zml_8 : ∀ q ∈ zML 8, zcok 8 q := (List.forall_mem_cons.mpr ⟨⟨(zt4 18 rfl rfl), (zt1 22 rfl rfl), (zt1 23 rfl rfl)⟩, (List.forall_mem_cons.mpr ⟨⟨zmo_100, (zt4 19 rfl rfl), (zt4 21 rfl rfl), (zts 38 rfl), by decide +kernel⟩, (List.forall_mem_cons.mpr ⟨⟨zmo_95, (zt4 158 rfl rfl), (zt4 159 rfl rfl), by decide +kernel⟩, (List.forall_mem_cons.mpr ⟨⟨zmo_101, (zt5 0 rfl rfl), (zt5 2 rfl rfl), (zts 50 rfl), by decide +kernel⟩, (List.forall_mem_cons.mpr ⟨⟨zmo_104, (zt4 219 rfl rfl), (zt4 221 rfl rfl), (zts 47 rfl), by decide +kernel⟩, (List.forall_mem_cons.mpr ⟨⟨zmo_103, (zt5 12 rfl rfl), (zt5 14 rfl rfl), (zts 53 rfl), by decide +kernel⟩, (List.forall_mem_cons.mpr ⟨⟨zmo_106, (zt5 8 rfl rfl), (zt5 10 rfl rfl), (zts 52 rfl), by decide +kernel⟩, (List.forall_mem_cons.mpr ⟨⟨zmo_108, (zt5 24 rfl rfl), (zt5 26 rfl rfl), (zts 56 rfl), by decide +kernel⟩, (List.forall_mem_cons.mpr ⟨⟨zmo_102, (zt5 4 rfl rfl), (zt5 6 rfl rfl), (zts 51 rfl), by decide +kernel⟩, (List.forall_mem_cons.mpr ⟨⟨zmo_105, (zt5 28 rfl rfl), (zt5 30 rfl rfl), (zts 57 rfl), by decide +kernel⟩, (List.forall_mem_cons.mpr ⟨⟨zmo_107, (zt5 16 rfl rfl), (zt5 18 rfl rfl), (zts 54 rfl), by decide +kernel⟩, (List.forall_mem_cons.mpr ⟨⟨zmo_109, (zt5 20 rfl rfl), (zt5 22 rfl rfl), (zts 55 rfl), by decide +kernel⟩, (List.forall_mem_cons.mpr ⟨⟨zmo_110, (zt5 32 rfl rfl), (zt5 34 rfl rfl), (zts 58 rfl), by decide +kernel⟩, (List.forall_mem_cons.mpr ⟨⟨zmo_114, (zt4 169 rfl rfl), (zt4 171 rfl rfl), (zts 39 rfl), by decide +kernel⟩, (List.forall_mem_cons.mpr ⟨⟨zmo_115, (zt4 183 rfl rfl), (zt4 185 rfl rfl), (zts 42 rfl), by decide +kernel⟩, (List.forall_mem_cons.mpr ⟨⟨zmo_116, (zt4 194 rfl rfl), (zt4 196 rfl rfl), (zts 44 rfl), by decide +kernel⟩, (List.forall_mem_cons.mpr ⟨⟨zmo_118, (zt4 187 rfl rfl), (zt4 188 rfl rfl), by decide +kernel⟩, (List.forall_mem_cons.mpr ⟨⟨zmo_119, (zt4 190 rfl rfl), (zt4 192 rfl rfl), (zts 43 rfl), by decide +kernel⟩, (List.forall_mem_cons.mpr ⟨⟨zmo_120, (zt4 179 rfl rfl), (zt4 181 rfl rfl), (zts 41 rfl), by decide +kernel⟩, (List.forall_mem_cons.mpr ⟨⟨zmo_117, (zt4 198 rfl rfl), (zt4 200 rfl rfl), (zts 45 rfl), by decide +kernel⟩, (List.forall_mem_cons.mpr ⟨⟨zmo_121, (zt4 175 rfl rfl), (zt4 177 rfl rfl), (zts 40 rfl), by decide +kernel⟩, (List.forall_mem_cons.mpr ⟨⟨zmo_96, (zt4 206 rfl rfl), (zt4 207 rfl rfl), by decide +kernel⟩, (List.forall_mem_cons.mpr ⟨⟨zmo_97, (zt4 215 rfl rfl), (zt4 217 rfl rfl), (zts 46 rfl), by decide +kernel⟩, (List.forall_mem_cons.mpr ⟨⟨zmo_98, (zt4 232 rfl rfl), (zt4 234 rfl rfl), (zts 48 rfl), by decide +kernel⟩, (List.forall_mem_cons.mpr ⟨⟨zmo_111, (zt4 236 rfl rfl), (zt4 238 rfl rfl), (zts 49 rfl), by decide +kernel⟩, (List.forall_mem_cons.mpr ⟨⟨zmo_99, (zt5 40 rfl rfl), (zt5 42 rfl rfl), (zts 59 rfl), by decide +kernel⟩, (List.forall_mem_cons.mpr ⟨⟨zmo_128, (zt5 63 rfl rfl), (zt5 65 rfl rfl), (zts 63 rfl), by decide +kernel⟩, (List.forall_mem_cons.mpr ⟨⟨zmo_130, (zt5 57 rfl rfl), (zt5 59 rfl rfl), (zts 62 rfl), by decide +kernel⟩, (List.forall_mem_cons.mpr ⟨⟨zmo_129, (zt5 71 rfl rfl), (zt5 73 rfl rfl), (zts 65 rfl), by decide +kernel⟩, (List.forall_mem_cons.mpr ⟨⟨zmo_132, (zt5 75 rfl rfl), (zt5 77 rfl rfl), (zts 66 rfl), by decide +kernel⟩, (List.forall_mem_cons.mpr ⟨⟨zmo_131, (zt5 53 rfl rfl), (zt5 55 rfl rfl), (zts 61 rfl), by decide +kernel⟩, (List.forall_mem_cons.mpr ⟨⟨zmo_133, (zt5 67 rfl rfl), (zt5 69 rfl rfl), (zts 64 rfl), by decide +kernel⟩, (List.forall_mem_cons.mpr ⟨⟨zmo_134, (zt5 49 rfl rfl), (zt5 51 rfl rfl), (zts 60 rfl), by decide +kernel⟩, (List.forall_mem_cons.mpr ⟨⟨zmo_144, (zt5 115 rfl rfl), (zt5 117 rfl rfl), (zts 67 rfl), by decide +kernel⟩, (fun _ h => absurd h List.not_mem_nil)⟩)⟩)⟩)⟩)⟩)⟩)⟩)⟩)⟩)⟩)⟩)⟩)⟩)⟩)⟩)⟩)⟩)⟩)⟩)⟩)⟩)⟩)⟩)⟩)⟩)⟩)⟩)⟩)⟩)⟩)⟩)⟩)⟩)⟩)
theorem zml_ok (c : Nat) (hc : c < 9) : ∀ q ∈ zML c, zcok c q := match c, hc with
  | 0, _ => zml_0
  | 1, _ => zml_1
  | 2, _ => zml_2
  | 3, _ => zml_3
  | 4, _ => zml_4
  | 5, _ => zml_5
  | 6, _ => zml_6
  | 7, _ => zml_7
  | 8, _ => zml_8
  | c + 9, hc => absurd hc (by omega)
theorem zsh_obj : ∀ a, a < zN → (zsh (a : Nat)).1 < 9 → (zsh (a : Nat)).2 = zNf (zsh (a : Nat)).1 := by decide +kernel
theorem zsh_lk : ∀ a, a < zN → ∀ q ∈ zLKc (zsh (a : Nat)).1, ((a : Int), (q.1 : Int), (a : Int) + q.2) ∈ zLKl := by decide +kernel
theorem zlk_tag : ∀ c, c < 9 → ∀ q ∈ zLKc c, ztg c q.1 = 2 := by decide +kernel
def zgty (t : FieldType) : Bool := match t with
  | .int => true
  | .boolean => true
  | .object _ => true
  | .array _ => true
  | _ => false
theorem zty_good : ∀ c, c < 9 → ∀ k, k < zNf c → zgty (zty c k) = true := by decide +kernel
theorem zsh_len : ∀ a, a < zN → (zsh (a : Nat)).2 < 10000 := by decide +kernel
theorem zsh_big {a : Nat} (h : zN ≤ a) : zsh (a : Int) = (99, 0) := by
  unfold zsh
  rw [if_neg (by omega)]
  show zSH.getD (a : Int).toNat (99, 0) = (99, 0)
  rw [Int.toNat_natCast, List.getD_eq_getElem?_getD, List.getElem?_eq_none (show zSH.length ≤ a from h)]
  rfl
