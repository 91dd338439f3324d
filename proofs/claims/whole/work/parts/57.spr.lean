-- the reference's spread
theorem nI_dl {a b : Nat} (ha : a < 2 ^ 30) (hb : b < 2 ^ 30) : (nI a - nI b).toInt64 = lN a - lN b := by
  apply Int64.toInt_inj.mp
  rw [Int32.toInt_toInt64, pk_sub_toInt ha hb, Int64.toInt_sub, lN_toInt (by omega), lN_toInt (by omega)]
  rw [Int.bmod_eq_of_le]
  · omega
  · omega
section Spr
variable (L : Nat) (xs : Nat → Int32)
theorem m_113 {h : AH} (hb : MB h) (m : MS) (hN : m.N ≤ 20000) {t : Nat → Nat} (ht : ∀ i, i < m.N → m.rT i = nI (t i) ∧ t i ≤ 100000) (n : Int32) : XM L xs 113 [.ref 8, .int n] (ml h m) = some (ml h m, some (.int (spr t m.N n))) := by
  obtain ⟨b1, b2, b3, b4⟩ := id hb
  have big : ∀ i, i ≤ m.N → cum t i < 2 ^ 31 := fun i hi => by
    have := cum_le t (B := 100000) i (fun j hj => (ht j (by omega)).2)
    have : i * 100000 ≤ 20000 * 100000 := Nat.mul_le_mul_right _ (by omega)
    omega
  rw [en_113, k_113_0]
  unfold spr
  by_cases n1 : n < 1
  · rw [if_pos n1, if_pos (Or.inl n1), k_113_13]
  · have n0 : ¬ n < 0 := fun g => n1 (by rw [Int32.lt_iff_toInt_lt] at *; have : (0 : Int32).toInt = 0 := rfl; have : (1 : Int32).toInt = 1 := rfl; omega)
    obtain ⟨v, v1, rfl⟩ := nn_of n0
    have v2 : 1 ≤ v := by
      rcases Nat.eq_zero_or_pos v with g | g
      · exfalso; rw [g] at n1; exact n1 (by decide)
      · exact g
    rw [if_neg n1, k_113_5]
    simp only [Hml, b1, b2, b3, b4, HF10, gd_t, decide_true, Bool.and_self, HQ, HZ, (nI_iff v1 (show m.N < 2 ^ 31 by omega)).1, (nI_iff (show m.N < 2 ^ 31 by omega) v1).2, n1, false_or, nI_clamp v1]
    by_cases q : v ≤ m.N
    · rw [if_pos q, if_neg (by omega), k_113_15]
      have lp1 : ∀ (j i : Nat) (l5 l6 l7 : Value), i + j = v → X L xs 113 20 [.ref 8, .int (nI v), .long (lN (cum t i)), .null, .int (nI i), l5, l6, l7] [] (ml h m) = X L xs 113 43 [.ref 8, .int (nI v), .long (lN (cum t v)), .null, .int (nI v), l5, l6, l7] [] (ml h m) := by
        intro j
        induction j with
        | zero =>
          intro i l5 l6 l7 hi
          have : i = v := by omega
          subst this
          rw [k_113_20, if_pos (nI_le (Nat.le_refl _) v1)]
        | succ j ih =>
          intro i l5 l6 l7 hi
          have hti := ht i (by omega)
          rw [k_113_20, if_neg (nI_ge (by omega) v1), k_113_26]
          simp only [Hml, b1, b2, b3, b4, HF10, gd_t, decide_true, Bool.and_self, HQ, HZ, inb_nI (show i < 20000 by omega) (by decide), nI_clamp (show i < 2 ^ 31 by omega), hti.1, nI_l (show t i < 2 ^ 31 by omega), lN_add, nI_1]
          exact ih (i + 1) l5 l6 l7 (by omega)
      have lp2 : ∀ (j i M a : Nat) (l3 l5 : Value), i + j = m.N → v ≤ i → M < 2 ^ 31 → X L xs 113 52 [.ref 8, .int (nI v), .long (lN (cum t i - cum t (i - v))), l3, .long (lN M), l5, .int (nI a), .int (nI i)] [] (ml h m) = some (ml h m, some (.int (nI (spF t v j i M a)))) := by
        intro j
        induction j with
        | zero =>
          intro i M a l3 l5 hi hv hM
          rw [k_113_52]
          simp only [Hml, b1, b2, b3, b4, HF10, gd_t, decide_true, Bool.and_self, HQ, HZ]
          rw [if_pos (nI_le (by omega) (by omega)), k_113_106]
          rfl
        | succ j ih =>
          intro i M a l3 l5 hi hv hM
          have hd : nI i - nI v = nI (i - v) := pk_sub hv
          have e1 := ht i (by omega)
          have e2 := ht (i - v) (by omega)
          have mo : cum t (i - v + 1) ≤ cum t i := cum_mono t (by omega)
          have mo' : cum t (i - v) + t (i - v) ≤ cum t i := mo
          have es : lN (cum t i - cum t (i - v)) + (nI (t i) - nI (t (i - v))).toInt64 = lN (cum t (i + 1) - cum t (i + 1 - v)) := by
            rw [nI_dl (by omega) (by omega), show i + 1 - v = i - v + 1 from by omega]
            show _ = lN (cum t i + t i - (cum t (i - v) + t (i - v)))
            rw [← lN_sub (show cum t (i - v) + t (i - v) ≤ cum t i + t i from by omega), ← lN_sub (show cum t (i - v) ≤ cum t i from by omega), ← lN_add, ← lN_add]
            simp only [Int64.sub_eq_add_neg, Int64.neg_add]
            rw [Int64.add_assoc, Int64.add_assoc]
            congr 1
            rw [← Int64.add_assoc, Int64.add_comm (-lN (cum t (i - v))), Int64.add_assoc]
          have bS : cum t (i + 1) - cum t (i + 1 - v) < 2 ^ 31 := by have := big (i + 1) (by omega); omega
          rw [k_113_52]
          simp only [Hml, b1, b2, b3, b4, HF10, gd_t, decide_true, Bool.and_self, HQ, HZ]
          rw [if_neg (nI_ge (by omega) (by omega)), k_113_61]
          simp only [Hml, b1, b2, b3, b4, HF10, gd_t, decide_true, Bool.and_self, HQ, HZ, inb_nI (show i < 20000 by omega) (by decide), hd, inb_nI (show i - v < 20000 by omega) (by decide), nI_clamp (show i < 2 ^ 31 by omega), nI_clamp (show i - v < 2 ^ 31 by omega), e1.1, e2.1, es, lg_cmp_le, lN_le bS hM]
          unfold spF
          by_cases g : cum t (i + 1) - cum t (i + 1 - v) ≤ M
          · rw [if_pos g, if_pos g, k_113_100, nI_1]
            exact ih (i + 1) M a _ _ (by omega) (by omega) hM
          · rw [if_neg g, if_neg g, k_113_89, k_113_100, hd, nI_1, nI_1]
            exact ih (i + 1) _ (i - v + 1) _ _ (by omega) (by omega) bS
      have := lp1 v 0 .null .null .null (by omega)
      rw [nI_0] at this
      rw [show (0 : Int64) = lN (cum t 0) from rfl, this, k_113_43]
      have e := lp2 (m.N - v) v (cum t v) 0 (klL .null) .null (by omega) (Nat.le_refl _) (big v q)
      rw [Nat.sub_self, show cum t v - cum t 0 = cum t v from rfl, nI_0] at e
      rw [e]
    · rw [if_neg q, if_pos (by omega), k_113_13]
end Spr
