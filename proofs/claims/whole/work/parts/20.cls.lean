/-! places -/
theorem zob_dec {a : Int} {c g : Nat} (h : (decide (0 ≤ a) && decide (a < g) && decide ((zsh a).1 = c)) = true) : zob a c g := by
  simp only [Bool.and_eq_true, decide_eq_true_eq] at h
  exact ⟨h.1.1, h.1.2, h.2⟩
theorem zcat_0 : zcat [] = 0 := rfl
theorem zcat_i (x : Int) (st : List zV) : zcat ((0, x) :: st) = 1 + zcat st := rfl
theorem zcat_l (x : Int) (st : List zV) : zcat ((1, x) :: st) = 2 + zcat st := rfl
theorem zcat_r (x : Int) (st : List zV) : zcat ((2, x) :: st) = 1 + zcat st := rfl
theorem zcat_t (x : Int) (st : List zV) : zcat ((3, x) :: st) = 1 + zcat st := rfl
theorem zup_self (w : zW) (a i x : Int) : zup w a i x a i = x := zup_at
theorem zup_off (w : zW) {a i x b j : Int} (h : b ≠ a ∨ j ≠ i) : zup w a i x b j = w b j := by
  unfold zup
  rw [if_neg]
  rintro ⟨h1, h2⟩
  rcases h with h | h
  · exact h h1
  · exact h h2
theorem w32_id {x : Int} (h1 : -2147483648 ≤ x) (h2 : x < 2147483648) : w32 x = x := by
  unfold w32
  exact Int.bmod_eq_of_le (by omega) (by omega)
section ZC
variable {k j : Int}
abbrev isS (k : Int) : Prop := k = 19 ∨ k = 45 ∨ k = 55
abbrev isT (j : Int) : Prop := j = 2 ∨ j = 9
theorem sS0 (h : isS k) : zob k 2 92 := by rcases h with rfl | rfl | rfl <;> exact zob_dec (by decide +kernel)
theorem sSn (h : isS k) : 0 ≤ k := by omega
theorem sS1 (h : isS k) : zob (k + 1) 20 92 := by rcases h with rfl | rfl | rfl <;> exact zob_dec (by decide +kernel)
theorem sSl1 (h : isS k) : ((zsh (k + 1)).2 : Int) = 3 := by rcases h with rfl | rfl | rfl <;> decide +kernel
theorem sS2 (h : isS k) : zob (k + 2) 20 92 := by rcases h with rfl | rfl | rfl <;> exact zob_dec (by decide +kernel)
theorem sSl2 (h : isS k) : ((zsh (k + 2)).2 : Int) = 3 := by rcases h with rfl | rfl | rfl <;> decide +kernel
theorem sS3 (h : isS k) : zob (k + 3) 20 92 := by rcases h with rfl | rfl | rfl <;> exact zob_dec (by decide +kernel)
theorem sSl3 (h : isS k) : ((zsh (k + 3)).2 : Int) = 3 := by rcases h with rfl | rfl | rfl <;> decide +kernel
theorem sS4 (h : isS k) : zob (k + 4) 20 92 := by rcases h with rfl | rfl | rfl <;> exact zob_dec (by decide +kernel)
theorem sSl4 (h : isS k) : ((zsh (k + 4)).2 : Int) = 4 := by rcases h with rfl | rfl | rfl <;> decide +kernel
theorem sS5 (h : isS k) : zob (k + 5) 20 92 := by rcases h with rfl | rfl | rfl <;> exact zob_dec (by decide +kernel)
theorem sSl5 (h : isS k) : ((zsh (k + 5)).2 : Int) = 4 := by rcases h with rfl | rfl | rfl <;> decide +kernel
theorem sS6 (h : isS k) : zob (k + 6) 20 92 := by rcases h with rfl | rfl | rfl <;> exact zob_dec (by decide +kernel)
theorem sSl6 (h : isS k) : ((zsh (k + 6)).2 : Int) = 4 := by rcases h with rfl | rfl | rfl <;> decide +kernel
theorem sS7 (h : isS k) : zob (k + 7) 20 92 := by rcases h with rfl | rfl | rfl <;> exact zob_dec (by decide +kernel)
theorem sSl7 (h : isS k) : ((zsh (k + 7)).2 : Int) = 4 := by rcases h with rfl | rfl | rfl <;> decide +kernel
theorem sS8 (h : isS k) : zob (k + 8) 20 92 := by rcases h with rfl | rfl | rfl <;> exact zob_dec (by decide +kernel)
theorem sSl8 (h : isS k) : ((zsh (k + 8)).2 : Int) = 4 := by rcases h with rfl | rfl | rfl <;> decide +kernel
theorem sS9 (h : isS k) : zob (k + 9) 20 92 := by rcases h with rfl | rfl | rfl <;> exact zob_dec (by decide +kernel)
theorem sSl9 (h : isS k) : ((zsh (k + 9)).2 : Int) = 4 := by rcases h with rfl | rfl | rfl <;> decide +kernel
theorem sT0 (h : isT j) : zob j 6 92 := by rcases h with rfl | rfl <;> exact zob_dec (by decide +kernel)
theorem sTn (h : isT j) : 0 ≤ j := by omega
theorem sT1 (h : isT j) : zob (j + 1) 20 92 := by rcases h with rfl | rfl <;> exact zob_dec (by decide +kernel)
theorem sTl1 (h : isT j) : ((zsh (j + 1)).2 : Int) = 3 := by rcases h with rfl | rfl <;> decide +kernel
theorem sT2 (h : isT j) : zob (j + 2) 20 92 := by rcases h with rfl | rfl <;> exact zob_dec (by decide +kernel)
theorem sTl2 (h : isT j) : ((zsh (j + 2)).2 : Int) = 4 := by rcases h with rfl | rfl <;> decide +kernel
theorem sT3 (h : isT j) : zob (j + 3) 20 92 := by rcases h with rfl | rfl <;> exact zob_dec (by decide +kernel)
theorem sTl3 (h : isT j) : ((zsh (j + 3)).2 : Int) = 4 := by rcases h with rfl | rfl <;> decide +kernel
theorem sT4 (h : isT j) : zob (j + 4) 20 92 := by rcases h with rfl | rfl <;> exact zob_dec (by decide +kernel)
theorem sTl4 (h : isT j) : ((zsh (j + 4)).2 : Int) = 20 := by rcases h with rfl | rfl <;> decide +kernel
theorem sT5 (h : isT j) : zob (j + 5) 20 92 := by rcases h with rfl | rfl <;> exact zob_dec (by decide +kernel)
theorem sTl5 (h : isT j) : ((zsh (j + 5)).2 : Int) = 20 := by rcases h with rfl | rfl <;> decide +kernel
theorem sT6 (h : isT j) : zob (j + 6) 20 92 := by rcases h with rfl | rfl <;> exact zob_dec (by decide +kernel)
theorem sTl6 (h : isT j) : ((zsh (j + 6)).2 : Int) = 20 := by rcases h with rfl | rfl <;> decide +kernel
theorem sSall (h : isS k) : zob k 2 92 ∧ 0 ≤ k ∧ zob (k + 1) 20 92 ∧ ((zsh (k + 1)).2 : Int) = 3 ∧ zob (k + 2) 20 92 ∧ ((zsh (k + 2)).2 : Int) = 3 ∧ zob (k + 3) 20 92 ∧ ((zsh (k + 3)).2 : Int) = 3 ∧ zob (k + 4) 20 92 ∧ ((zsh (k + 4)).2 : Int) = 4 ∧ zob (k + 5) 20 92 ∧ ((zsh (k + 5)).2 : Int) = 4 ∧ zob (k + 6) 20 92 ∧ ((zsh (k + 6)).2 : Int) = 4 ∧ zob (k + 7) 20 92 ∧ ((zsh (k + 7)).2 : Int) = 4 ∧ zob (k + 8) 20 92 ∧ ((zsh (k + 8)).2 : Int) = 4 ∧ zob (k + 9) 20 92 ∧ ((zsh (k + 9)).2 : Int) = 4 := ⟨sS0 h, sSn h, sS1 h, sSl1 h, sS2 h, sSl2 h, sS3 h, sSl3 h, sS4 h, sSl4 h, sS5 h, sSl5 h, sS6 h, sSl6 h, sS7 h, sSl7 h, sS8 h, sSl8 h, sS9 h, sSl9 h⟩
theorem sTall (h : isT j) : zob j 6 92 ∧ 0 ≤ j ∧ zob (j + 1) 20 92 ∧ ((zsh (j + 1)).2 : Int) = 3 ∧ zob (j + 2) 20 92 ∧ ((zsh (j + 2)).2 : Int) = 4 ∧ zob (j + 3) 20 92 ∧ ((zsh (j + 3)).2 : Int) = 4 ∧ zob (j + 4) 20 92 ∧ ((zsh (j + 4)).2 : Int) = 20 ∧ zob (j + 5) 20 92 ∧ ((zsh (j + 5)).2 : Int) = 20 ∧ zob (j + 6) 20 92 ∧ ((zsh (j + 6)).2 : Int) = 20 := ⟨sT0 h, sTn h, sT1 h, sTl1 h, sT2 h, sTl2 h, sT3 h, sTl3 h, sT4 h, sTl4 h, sT5 h, sTl5 h, sT6 h, sTl6 h⟩
end ZC
