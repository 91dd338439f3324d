-- newStructure
def nwS (H : AH) (k t n : Nat) : AH := wI (mk H t 0 n) 12 (nn H + 1) (nI k)
def nwR (H : AH) (k : Nat) : AH := wR (mk (nwS H k 6 6) 21 4 4) 23 (nn H + 1) (nn H + 2)
def nwT (H : AH) (k : Nat) : AH := if k = 0 then nwS H k 5 9 else if k = 1 then nwS H k 7 10 else if k ≤ 3 then nwS H k 3 6 else nwR H k
section C32
variable (L : Nat) (xs : Nat → Int32)
theorem c154 {H : AH} {y : Nat} (y0 : y ≠ 0) (hf : hasF (tg H y) 12 = true) (k : Int32) : XM L xs 154 [.ref y, .int k] H = some (wI H 12 y k, none) := by
  rw [en_154, k_154_0]
  simp only [gd_t, decide_true, Bool.and_self, HQ, HZ, hf, show decide (y ≠ 0) = true from decide_eq_true y0]
  rw [k_154_9]
theorem c157 {H : AH} {y : Nat} (y0 : y ≠ 0) (hf : hasF (tg H y) 12 = true) (k : Int32) : XM L xs 157 [.ref y, .int k] H = some (wI H 12 y k, none) := by
  rw [en_157, k_157_0]
  simp only [gd_t, decide_true, Bool.and_self, HQ, HZ, show decide (y ≠ 0) = true from decide_eq_true y0, cc_11_1_0, c154 L xs y0 hf k, bV_s]
theorem c32 (H : AH) {k : Nat} (hk : k ≤ 5) : XM L xs 32 [.int (nI k)] H = some (nwT H k, some (.ref (nn H + 1))) := by
  have y0 : nn H + 1 ≠ 0 := Nat.succ_ne_zero _
  have dy : decide (nn H + 1 ≠ 0) = true := decide_eq_true y0
  have tm : ∀ t n, tg (mk H t 0 n) (nn H + 1) = t := fun t n => u1_s _ _ _
  rw [en_32, k_32_0]
  have heap : ∀ k, 2 ≤ k → k ≤ 3 → X L xs 32 48 [.int (nI k)] [] H = some (nwS H k 3 6, some (.ref (nn H + 1))) := fun k _ _ => by
    rw [k_32_48, k_32_51]
    have e : XM L xs 120 [.ref (nn H + 1), .int (nI k)] (mk H 3 0 6) = some (nwS H k 3 6, none) := by
      rw [en_120, k_120_0]
      simp only [gd_t, decide_true, Bool.and_self, HQ, HZ, dy, cc_2_3_0, c154 L xs y0 (show hasF (tg (mk H 3 0 6) (nn H + 1)) 12 = true by rw [tm]; rfl) (nI k), bV_s]
      rfl
    simp only [gd_t, decide_true, Bool.and_self, HQ, HZ, dy, cc_0_251_0, e, bV_s]
  have row : ∀ k, X L xs 32 57 [.int (nI k)] [] H = some (nwR H k, some (.ref (nn H + 1))) := fun k => by
    rw [k_32_57, k_32_60]
    have e : XM L xs 146 [.ref (nn H + 1), .int (nI k)] (mk H 6 0 6) = some (nwR H k, none) := by
      rw [en_146, k_146_0]
      have e4 : decide (0 ≤ (4 : Int32).toInt ∧ (4 : Int32).toInt ≤ 1000000) = true := by decide +kernel
      have e5 : (4 : Int32).toNatClampNeg = 4 := by decide +kernel
      have tk : tg (mk (nwS H k 6 6) 21 4 4) (nn H + 1) = 6 := by
        show u1 (u1 H.2.2.1 (nn H + 1) 6) (nn H + 2) 21 (nn H + 1) = 6
        rw [u1_o _ _ (by omega), u1_s]
      simp only [gd_t, decide_true, Bool.and_self, HQ, HZ, dy, cc_5_3_0, c154 L xs y0 (show hasF (tg (mk H 6 0 6) (nn H + 1)) 12 = true by rw [tm]; rfl) (nI k), bV_s, e4, e5]
      rw [k_146_9]
      rw [show wI (mk H 6 0 6) 12 (nn H + 1) (nI k) = nwS H k 6 6 from rfl]
      simp only [gd_t, tk, HF6]
      rw [k_146_12]
      rfl
    simp only [gd_t, decide_true, Bool.and_self, HQ, HZ, dy, cc_0_254_0, e, bV_s]
  match k, hk with
  | 0, _ =>
    rw [show swp 1 56 0 3 #[31, 39, 47, 47] (nI 0) = 32 from by decide +kernel, k_32_32, k_32_35]
    have e : XM L xs 140 [.ref (nn H + 1)] (mk H 5 0 9) = some (nwT H 0, none) := by
      rw [en_140, k_140_0]
      simp only [gd_t, decide_true, Bool.and_self, HQ, HZ, dy, cc_4_3_0, c157 L xs y0 (show hasF (tg (mk H 5 0 9) (nn H + 1)) 12 = true by rw [tm]; rfl) 0, bV_s]
      rfl
    simp only [gd_t, decide_true, Bool.and_self, HQ, HZ, dy, cc_0_250_0, e, bV_s]
  | 1, _ =>
    rw [show swp 1 56 0 3 #[31, 39, 47, 47] (nI 1) = 40 from by decide +kernel, k_32_40, k_32_43]
    have e : XM L xs 170 [.ref (nn H + 1)] (mk H 7 0 10) = some (nwT H 1, none) := by
      rw [en_170, k_170_0]
      simp only [gd_t, decide_true, Bool.and_self, HQ, HZ, dy, cc_6_3_0, c157 L xs y0 (show hasF (tg (mk H 7 0 10) (nn H + 1)) 12 = true by rw [tm]; rfl) 1, bV_s]
      rfl
    simp only [gd_t, decide_true, Bool.and_self, HQ, HZ, dy, cc_0_102_0, e, bV_s]
  | 2, _ =>
    rw [show swp 1 56 0 3 #[31, 39, 47, 47] (nI 2) = 48 from by decide +kernel, heap 2 (by omega) (by omega)]
    rfl
  | 3, _ =>
    rw [show swp 1 56 0 3 #[31, 39, 47, 47] (nI 3) = 48 from by decide +kernel, heap 3 (by omega) (by omega)]
    rfl
  | 4, _ =>
    rw [show swp 1 56 0 3 #[31, 39, 47, 47] (nI 4) = 57 from by decide +kernel, row 4]
    rfl
  | 5, _ =>
    rw [show swp 1 56 0 3 #[31, 39, 47, 47] (nI 5) = 57 from by decide +kernel, row 5]
    rfl
end C32
