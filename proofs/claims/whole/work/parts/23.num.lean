-- numbers: lg, prices
section Num
variable (L : Nat) (xs : Nat → Int32)
theorem nI_1c : (1 : Int32) = nI 1 := by decide +kernel
theorem nI_2c : (2 : Int32) = nI 2 := by decide +kernel
theorem nI_24c : (24 : Int32) = nI 24 := by decide +kernel
theorem nI_shr1 {k : Nat} (hk : k < 2 ^ 31) : nI k >>> ((1 : Int32) &&& 31) = nI (k / 2) := by
  have := pk_shrN hk ((1 : Int32) &&& 31) 1 (by decide +kernel)
  simpa using this
theorem le_1 {k : Nat} (hk : k < 2 ^ 31) : nI k ≤ (1 : Int32) ↔ k ≤ 1 := by
  rw [nI_1c, nI_leI hk (by decide)]
theorem log2_half {k : Nat} (h : 1 < k) : Nat.log2 k = Nat.log2 (k / 2) + 1 := by
  rw [Nat.log2_def, if_pos (by omega)]
theorem log2_1 {k : Nat} (h : k ≤ 1) : Nat.log2 k = 0 := by
  rw [Nat.log2_def, if_neg (by omega)]
/-- StepPurse.lg -/
theorem s_40_loop (h : AH) : ∀ (k r : Nat) (l0 : Int32), k < 2 ^ 31 → X L xs 40 4 [.int l0, .int (nI r), .int (nI k)] [] h = some (h, some (.int (nI (r + Nat.log2 k)))) := by
  intro k
  induction k using Nat.strongRecOn with
  | _ k ih =>
    intro r l0 hk
    rw [k_40_4]
    by_cases h1 : k ≤ 1
    · rw [if_pos ((le_1 hk).mpr h1), k_40_19, log2_1 h1, Nat.add_zero]
    · rw [if_neg (fun z => h1 ((le_1 hk).mp z)), k_40_9, nI_shr1 hk, nI_1]
      rw [ih (k / 2) (by omega) (r + 1) l0 (by omega), log2_half (k := k) (by omega), show r + 1 + Nat.log2 (k / 2) = r + (Nat.log2 (k / 2) + 1) by omega]
theorem s_40 (h : AH) (k : Nat) (hk : k < 2 ^ 31) : XM L xs 40 [.int (nI k)] h = some (h, some (.int (nI (Nat.log2 k)))) := by
  rw [en_40, k_40_0, ← nI_0, s_40_loop L xs h k 0 _ hk, Nat.zero_add]
def prT (n : Nat) : Int32 := 24 * nI (Nat.log2 (n + 1)) + 24
def prH (a b : Nat) : Int32 := 2 * (nI (Nat.log2 a) + nI (Nat.log2 b) + 2)
theorem s_41 (h : AH) (k : Nat) (hk : k < 2 ^ 30) : XM L xs 41 [.int (nI k)] h = some (h, some (.int (prT k))) := by
  rw [en_41, k_41_0, nI_1, cc_0_270_0, s_40 L xs h (k + 1) (by omega)]
  rfl
theorem s_42 (h : AH) (a b : Nat) (ha : a < 2 ^ 31) (hb : b < 2 ^ 31) : XM L xs 42 [.int (nI a), .int (nI b)] h = some (h, some (.int (prH a b))) := by
  rw [en_42, k_42_0, cc_0_270_0, s_40 L xs h a ha]
  simp only [bI_s]
  rw [cc_0_270_0, s_40 L xs h b hb]
  rfl
/-- the reference's lg -/
theorem nI_shrN {k r : Nat} (hk : k < 2 ^ 31) (hr : r < 31) : nI k >>> (nI r &&& 31) = nI (k / 2 ^ r) := by
  refine pk_shrN hk (nI r &&& 31) r ?_
  have : ∀ r : Fin 31, ((nI r.val &&& 31).toBitVec.smod 32).toNat = r.val := by decide +kernel
  exact this ⟨r, hr⟩
theorem log2_pow {k r : Nat} (h : 1 < k / 2 ^ r) : Nat.log2 (k / 2 ^ r) = Nat.log2 (k / 2 ^ (r + 1)) + 1 := by
  rw [log2_half h, Nat.div_div_eq_div_mul, ← Nat.pow_succ]
theorem s_51_loop (h : AH) (k : Nat) (hk : k < 2 ^ 31) : ∀ (d r : Nat), d = Nat.log2 (k / 2 ^ r) → r + d < 31 → X L xs 51 2 [.int (nI k), .int (nI r)] [] h = some (h, some (.int (nI (r + d)))) := by
  intro d
  induction d with
  | zero =>
    intro r hd hr
    rw [k_51_2, nI_shrN hk (by omega)]
    have h1 : k / 2 ^ r ≤ 1 := by
      rcases Nat.lt_or_ge 1 (k / 2 ^ r) with q | q
      · rw [log2_half q] at hd; omega
      · exact q
    rw [if_pos ((le_1 (Nat.lt_of_le_of_lt (Nat.div_le_self _ _) hk)).mpr h1), k_51_15]
    rfl
  | succ d ih =>
    intro r hd hr
    rw [k_51_2, nI_shrN hk (by omega)]
    have h1 : 1 < k / 2 ^ r := by
      rcases Nat.lt_or_ge 1 (k / 2 ^ r) with q | q
      · exact q
      · rw [log2_1 q] at hd; omega
    rw [if_neg (fun z => absurd ((le_1 (Nat.lt_of_le_of_lt (Nat.div_le_self _ _) hk)).mp z) (by omega)), k_51_9, nI_1]
    rw [log2_pow h1] at hd
    rw [ih (r + 1) (by omega) (by omega), show r + 1 + d = r + (d + 1) by omega]
theorem log2_31 {k : Nat} (hk : k < 2 ^ 31) : Nat.log2 k < 31 := by
  by_cases h0 : k = 0
  · subst h0; decide
  · exact (Nat.log2_lt h0).mpr hk
theorem s_51 (h : AH) (k : Nat) (hk : k < 2 ^ 31) : XM L xs 51 [.int (nI k)] h = some (h, some (.int (nI (Nat.log2 k)))) := by
  rw [en_51, k_51_0, ← nI_0, s_51_loop L xs h k hk (Nat.log2 k) 0 (by rw [Nat.pow_zero, Nat.div_one]) (by have := log2_31 hk; omega), Nat.zero_add]
theorem s_71 (h : AH) (a k : Nat) (hk : k < 2 ^ 30) : XM L xs 71 [.ref a, .int (nI k)] h = some (h, some (.int (prT k))) := by
  rw [en_71, k_71_0, nI_1, cc_9_117_0, s_51 L xs h (k + 1) (by omega)]
  rfl
theorem ge_1 {k : Nat} (hk : k < 2 ^ 31) : (1 : Int32) ≤ nI k ↔ 1 ≤ k := by
  rw [nI_1c, nI_leI (by decide) hk]
theorem s_91 (h : AH) (a b : Nat) (ha : a < 2 ^ 31) (hb : b < 2 ^ 31) : XM L xs 91 [.int (nI a), .int (nI b)] h = some (h, some (.int (prH a b))) := by
  have key : ∀ (z : Nat), z < 2 ^ 31 → ∀ (c : Nat), c < 2 ^ 31 → Nat.log2 z = Nat.log2 a → Nat.log2 c = Nat.log2 b → True := fun _ _ _ _ _ _ => trivial
  have e1 : X L xs 91 0 [.int (nI a), .int (nI b)] [] h = X L xs 91 11 [.int (nI a), .int (nI b)] [.int (nI (max a 1)), .int 2] h := by
    rw [k_91_0]
    by_cases h1 : 1 ≤ a
    · rw [if_pos ((ge_1 ha).mpr h1), k_91_10, Nat.max_eq_left h1]
    · rw [if_neg (fun z => h1 ((ge_1 ha).mp z)), k_91_6, Nat.max_eq_right (by omega), nI_1c]
  have l1 : ∀ c, Nat.log2 (max c 1) = Nat.log2 c := by
    intro c
    by_cases h1 : 1 ≤ c
    · rw [Nat.max_eq_left h1]
    · rw [Nat.max_eq_right (by omega), log2_1 (by omega), log2_1 (by omega)]
  rw [en_91, e1, k_91_11, cc_9_117_0, s_51 L xs h _ (by omega), l1]
  simp only [bI_s]
  have e2 : ∀ s0 s1 : Int32, (if (1 : Int32) ≤ nI b then X L xs 91 23 [.int (nI a), .int (nI b)] [.int s0, .int s1] h else X L xs 91 19 [.int (nI a), .int (nI b)] [.int s0, .int s1] h) = X L xs 91 24 [.int (nI a), .int (nI b)] [.int (nI (max b 1)), .int s0, .int s1] h := by
    intro s0 s1
    by_cases h1 : 1 ≤ b
    · rw [if_pos ((ge_1 hb).mpr h1), k_91_23, Nat.max_eq_left h1]
    · rw [if_neg (fun z => h1 ((ge_1 hb).mp z)), k_91_19, Nat.max_eq_right (by omega), nI_1c]
  rw [e2, k_91_24, cc_9_117_0, s_51 L xs h _ (by omega), l1]
  rfl
end Num
