-- numbers: lg, prices
section Num
variable (L : Nat) (xs : Nat → Int32)
theorem one_and : ((1 : Int32) &&& 31) = 1 := by decide
theorem nI_1c : (1 : Int32) = nI 1 := by decide +kernel
theorem nI_shr1 {k : Nat} (hk : k < 2 ^ 31) : nI k >>> ((1 : Int32) &&& 31) = nI (k / 2) := by
  have := pk_shrN hk ((1 : Int32) &&& 31) 1 (by decide +kernel)
  simpa using this
theorem le_1 {k : Nat} (hk : k < 2 ^ 31) : nI k ≤ (1 : Int32) ↔ k ≤ 1 := by
  rw [nI_1c, nI_leI hk (by decide)]
theorem log2_half {k : Nat} (h : 1 < k) : Nat.log2 k = Nat.log2 (k / 2) + 1 := by
  rw [Nat.log2]
  rw [if_pos (by omega)]
/-- StepPurse.lg, its loop -/
theorem s_40_loop (h : AH) : ∀ (k r : Nat) (l0 : Int32), k < 2 ^ 31 → X L xs 40 4 [.int l0, .int (nI r), .int (nI k)] [] h = some (h, some (.int (nI (r + Nat.log2 k)))) := by
  intro k
  induction k using Nat.strongRecOn with
  | _ k ih =>
    intro r l0 hk
    rw [k_40_4]
    by_cases h1 : k ≤ 1
    · rw [if_pos ((le_1 hk).mpr h1), k_40_19]
      have : Nat.log2 k = 0 := by
        rw [Nat.log2, if_neg (by omega)]
      rw [this, Nat.add_zero]
    · rw [if_neg (fun z => h1 ((le_1 hk).mp z)), k_40_9, nI_shr1 hk, nI_1]
      rw [ih (k / 2) (by omega) (r + 1) l0 (by omega), log2_half (by omega), show r + 1 + Nat.log2 (k / 2) = r + (Nat.log2 (k / 2) + 1) by omega]
theorem s_40 (h : AH) (k : Nat) (hk : k < 2 ^ 31) : XM L xs 40 [.int (nI k)] h = some (h, some (.int (nI (Nat.log2 k)))) := by
  rw [en_40, k_40_0, ← nI_0, s_40_loop L xs h k 0 _ hk, Nat.zero_add]
end Num
