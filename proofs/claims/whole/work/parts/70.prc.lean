-- two structures at once; price
section Two
variable (L : Nat) (xs : Nat → Int32)
theorem JJ.c31 {m : MS} {c : CS} {d : DS} {B : AH} {T z : Nat → Nat} {V R : Nat → List Nat} {FN FI : List Nat} {ow : Nat → Nat} (hj : JJ m c d B T z V R FN FI ow) (a b : Int32) :
    (((a < 0 ∨ nI m.K ≤ a) ∨ (b < 0 ∨ nI m.K ≤ b)) → XM L xs 31 [.ref 1, .int a, .int b] (cl B d c) = some (cl B d c, some (.int (-1)))) ∧ (∀ s t, s < m.K → t < m.K → a = nI s → b = nI t → XM L xs 31 [.ref 1, .int a, .int b] (cl B d c) = some (cl B d c, some (.int (-2)))) := by
  obtain ⟨jb, js, -⟩ := id hj
  constructor
  · intro g
    by_cases hb : b < 0 ∨ nI m.K ≤ b
    · exact c31_f L xs jb.1 jb.2.2.2.2.2 c js.2.1 a (by rw [← js.1]; exact hb)
    · obtain ⟨t, ht, rfl⟩ := (st_of hj.K.1 b).resolve_left hb
      exact c31_t L xs jb.1 jb.2.2.2.2.2 c js.2.1 a (hj.kin ht).1 (hj.hs ht) (hj.c30f L xs (g.resolve_right hb))
  · rintro s t hs ht rfl rfl
    exact c31_t L xs jb.1 jb.2.2.2.2.2 c js.2.1 _ (hj.kin ht).1 (hj.hs ht) (hj.c30 L xs hs)
theorem m_87_f {h : AH} (hb : MB h) (m : MS) (hK : m.K ≤ 40) {a b : Int32} (g : (a < 0 ∨ nI m.K ≤ a) ∨ (b < 0 ∨ nI m.K ≤ b)) : XM L xs 87 [.ref 8, .int a, .int b] (ml h m) = some (ml h m, some (.int (-1))) := by
  obtain ⟨b1, b2, b3, b4⟩ := id hb
  rw [en_87, k_87_0]
  by_cases ha : a < 0 ∨ nI m.K ≤ a
  · simp only [Hml, b1, b2, b3, b4, HF10, gd_t, decide_true, Bool.and_self, HQ, HZ, cc_9_175_10, m_63_f L xs hb m ha, bI_s, if_true, k_87_16]
  · obtain ⟨s, hs, rfl⟩ := (st_of hK a).resolve_left ha
    simp only [Hml, b1, b2, b3, b4, HF10, gd_t, decide_true, Bool.and_self, HQ, HZ, cc_9_175_10, m_63_t L xs hb m hs hK, bI_s, show ¬ (1 : Int32) = 0 from by decide, if_false]
    rw [k_87_8]
    simp only [Hml, b1, b2, b3, b4, HF10, gd_t, decide_true, Bool.and_self, HQ, HZ, cc_9_175_10, m_63_f L xs hb m (g.resolve_left ha), bI_s, not_true, if_false, k_87_16]
theorem m_87 {h : AH} (hb : MB h) (m : MS) (hK : m.K ≤ 40) {s t : Nat} (hs : s < m.K) (ht : t < m.K) (k1 : m.kd s ≤ 5) (k2 : m.kd t ≤ 5) : XM L xs 87 [.ref 8, .int (nI s), .int (nI t)] (ml h m) = some (ml h m, some (.int (if m.kd s = 1 ∧ m.kd t = 1 ∧ s ≠ t then 0 else -2))) := by
  obtain ⟨b1, b2, b3, b4⟩ := id hb
  rw [en_87, k_87_0]
  simp only [Hml, b1, b2, b3, b4, HF10, gd_t, decide_true, Bool.and_self, HQ, HZ, cc_9_175_10, m_63_t L xs hb m hs hK, bI_s, show ¬ (1 : Int32) = 0 from by decide, if_false]
  rw [k_87_8]
  simp only [Hml, b1, b2, b3, b4, HF10, gd_t, decide_true, Bool.and_self, HQ, HZ, cc_9_175_10, m_63_t L xs hb m ht hK, bI_s, show ¬ (1 : Int32) = 0 from by decide, not_false_eq_true, if_true]
  rw [k_87_18]
  simp only [Hml, b1, b2, b3, b4, HF10, gd_t, decide_true, Bool.and_self, HQ, HZ, inb_nI (show s < 40 by omega) (by decide), nI_clamp (show s < 2 ^ 31 by omega), nI_1c, nI_eq (show m.kd s < 2 ^ 31 by omega) (show 1 < 2 ^ 31 by decide)]
  by_cases g1 : m.kd s = 1
  · rw [if_neg (fun q => q g1), k_87_28]
    simp only [Hml, b1, b2, b3, b4, HF10, gd_t, decide_true, Bool.and_self, HQ, HZ, inb_nI (show t < 40 by omega) (by decide), nI_clamp (show t < 2 ^ 31 by omega), nI_1c, nI_eq (show m.kd t < 2 ^ 31 by omega) (show 1 < 2 ^ 31 by decide)]
    by_cases g2 : m.kd t = 1
    · rw [if_neg (fun q => q g2), k_87_38]
      simp only [nI_eq (show s < 2 ^ 31 by omega) (show t < 2 ^ 31 by omega)]
      by_cases g3 : s = t
      · rw [if_neg (fun q => q g3), if_neg (fun q => q.2.2 g3), k_87_43, k_87_49]
      · rw [if_pos g3, if_pos ⟨g1, g2, g3⟩, k_87_48, k_87_49]
    · rw [if_pos g2, if_neg (fun q => g2 q.2.1), k_87_43, k_87_49]
  · rw [if_pos g1, if_neg (fun q => g1 q.1), k_87_43, k_87_49]
theorem m_95_f {h : AH} (hb : MB h) (m : MS) (hK : m.K ≤ 40) {a b : Int32} (g : (a < 0 ∨ nI m.K ≤ a) ∨ (b < 0 ∨ nI m.K ≤ b)) : XM L xs 95 [.ref 8, .int a, .int b] (ml h m) = some (ml h m, some (.int (-1))) := by
  obtain ⟨b1, b2, b3, b4⟩ := id hb
  rw [en_95, k_95_0]
  by_cases ha : a < 0 ∨ nI m.K ≤ a
  · simp only [Hml, b1, b2, b3, b4, HF10, gd_t, decide_true, Bool.and_self, HQ, HZ, cc_9_175_10, m_63_f L xs hb m ha, bI_s, if_true, k_95_16]
  · obtain ⟨s, hs, rfl⟩ := (st_of hK a).resolve_left ha
    simp only [Hml, b1, b2, b3, b4, HF10, gd_t, decide_true, Bool.and_self, HQ, HZ, cc_9_175_10, m_63_t L xs hb m hs hK, bI_s, show ¬ (1 : Int32) = 0 from by decide, if_false]
    rw [k_95_8]
    simp only [Hml, b1, b2, b3, b4, HF10, gd_t, decide_true, Bool.and_self, HQ, HZ, cc_9_175_10, m_63_f L xs hb m (g.resolve_left ha), bI_s, not_true, if_false, k_95_16]
theorem m_95 {h : AH} (hb : MB h) (m : MS) (hK : m.K ≤ 40) {s t : Nat} (hs : s < m.K) (ht : t < m.K) (k1 : m.kd s ≤ 5) (k2 : m.kd t ≤ 5) : XM L xs 95 [.ref 8, .int (nI s), .int (nI t)] (ml h m) = some (ml h m, some (.int (if (m.kd s = 2 ∨ m.kd s = 3) ∧ m.kd s = m.kd t ∧ s ≠ t then 0 else -2))) := by
  obtain ⟨b1, b2, b3, b4⟩ := id hb
  rw [en_95, k_95_0]
  simp only [Hml, b1, b2, b3, b4, HF10, gd_t, decide_true, Bool.and_self, HQ, HZ, cc_9_175_10, m_63_t L xs hb m hs hK, bI_s, show ¬ (1 : Int32) = 0 from by decide, if_false]
  rw [k_95_8]
  simp only [Hml, b1, b2, b3, b4, HF10, gd_t, decide_true, Bool.and_self, HQ, HZ, cc_9_175_10, m_63_t L xs hb m ht hK, bI_s, show ¬ (1 : Int32) = 0 from by decide, not_false_eq_true, if_true]
  rw [k_95_18]
  simp only [Hml, b1, b2, b3, b4, HF10, gd_t, decide_true, Bool.and_self, HQ, HZ, cc_9_121_10, m_61 L xs hb m (show s < 40 by omega) k1, bI_s]
  by_cases g1 : m.kd s = 2 ∨ m.kd s = 3
  · rw [decide_eq_true g1, if_neg (show ¬ bI1 true = 0 from by decide), k_95_26]
    simp only [Hml, b1, b2, b3, b4, HF10, gd_t, decide_true, Bool.and_self, HQ, HZ, inb_nI (show s < 40 by omega) (by decide), nI_clamp (show s < 2 ^ 31 by omega), inb_nI (show t < 40 by omega) (by decide), nI_clamp (show t < 2 ^ 31 by omega), nI_eq (show m.kd s < 2 ^ 31 by omega) (show m.kd t < 2 ^ 31 by omega)]
    by_cases g2 : m.kd s = m.kd t
    · rw [if_neg (fun q => q g2), k_95_41]
      simp only [nI_eq (show s < 2 ^ 31 by omega) (show t < 2 ^ 31 by omega)]
      by_cases g3 : s = t
      · rw [if_neg (fun q => q g3), if_neg (fun q => q.2.2 g3), k_95_46, k_95_52]
      · rw [if_pos g3, if_pos ⟨g1, g2, g3⟩, k_95_51, k_95_52]
    · rw [if_pos g2, if_neg (fun q => g2 q.2.1), k_95_46, k_95_52]
  · rw [decide_eq_false g1, if_pos (show bI1 false = 0 from rfl), if_neg (fun q => g1 q.1), k_95_46, k_95_52]
end Two
section Prc
variable (L : Nat) (xs : Nat → Int32)
/-- the price of join, of meld, in the class -/
theorem JJ.c43 {m : MS} {c : CS} {d : DS} {B : AH} {T z : Nat → Nat} {V R : Nat → List Nat} {FN FI : List Nat} {ow : Nat → Nat} (hj : JJ m c d B T z V R FN FI ow) {s : Nat} (hs : s < m.K) (b : Int32) :
    ((b < 0 ∨ nI m.K ≤ b) → XM L xs 43 [.ref 1, .int (nI s), .int b] (cl B d c) = some (cl B d c, some (.int (-1)))) ∧ (∀ t, t < m.K → b = nI t → XM L xs 43 [.ref 1, .int (nI s), .int b] (cl B d c) = some (cl B d c, some (.int (if m.kd s = 1 ∧ m.kd t = 1 ∧ s ≠ t then prT (c.he s + c.he t) else -2)))) := by
  obtain ⟨jb, js, -⟩ := id hj
  obtain ⟨p1, p2, p3, p4⟩ := id jb.1
  obtain ⟨h1, h2, h3, h4, h5, h6⟩ := hj.kin hs
  constructor
  · intro g
    have e31 := (hj.c31 L xs (nI s) b).1 (Or.inr g)
    rw [en_43, k_43_0]
    simp only [Hcl, p1, p2, p3, p4, HF1, HF2, gd_t, decide_true, Bool.and_self, HQ, HZ, cc_0_91_1, hj.c27 L xs hs, hj.c27f L xs g, bR_s]
    have key : ∀ r1, (if r1 = 0 then X L xs 43 28 [.ref 1, .int (nI s), .int b, .ref r1, .ref 0] [] (cl B d c) else X L xs 43 17 [.ref 1, .int (nI s), .int b, .ref r1, .ref 0] [] (cl B d c)) = some (cl B d c, some (.int (-1))) := by
      intro r1
      have e : X L xs 43 28 [.ref 1, .int (nI s), .int b, .ref r1, .ref 0] [] (cl B d c) = some (cl B d c, some (.int (-1))) := by
        rw [k_43_28]
        simp only [Hcl, p1, p2, p3, p4, HF1, HF2, gd_t, decide_true, Bool.and_self, HQ, HZ, cc_0_110_1, e31, bI_s]
      by_cases r0 : r1 = 0
      · rw [if_pos r0, e]
      · rw [if_neg r0, k_43_17, if_pos rfl, e]
    exact key _
  · rintro t ht rfl
    obtain ⟨i1, i2, i3, i4, i5, i6⟩ := hj.kin ht
    have e31 := (hj.c31 L xs (nI s) (nI t)).2 s t hs ht rfl rfl
    have t28 : ∀ r1 r2, X L xs 43 28 [.ref 1, .int (nI s), .int (nI t), .ref r1, .ref r2] [] (cl B d c) = some (cl B d c, some (.int (-2))) := by
      intro r1 r2
      rw [k_43_28]
      simp only [Hcl, p1, p2, p3, p4, HF1, HF2, gd_t, decide_true, Bool.and_self, HQ, HZ, cc_0_110_1, e31, bI_s]
    rw [en_43, k_43_0]
    simp only [Hcl, p1, p2, p3, p4, HF1, HF2, gd_t, decide_true, Bool.and_self, HQ, HZ, cc_0_91_1, hj.c27 L xs hs, hj.c27 L xs ht, bR_s]
    by_cases g1 : m.kd s = 1
    · rw [if_pos g1, if_neg h3, k_43_17]
      by_cases g2 : m.kd t = 1
      · rw [if_pos g2, if_neg i3, k_43_22]
        simp only [saI h2 i2, Nat.add_right_cancel_iff]
        by_cases g3 : s = t
        · rw [if_neg (fun q => q g3), if_neg (fun q => q.2.2 g3), t28]
        · have hz1 := hj.zle (hj.rz hs)
          have hz2 := hj.zle (hj.rz ht)
          rw [hj.he hs (by omega)] at hz1
          rw [hj.he ht (by omega)] at hz2
          have f1 : hasF (tg B (d.sa (s + 1))) 14 = true := by rw [h6]; exact (tgS_f h5).2.2.1
          have f2 : hasF (tg B (d.sa (t + 1))) 14 = true := by rw [i6]; exact (tgS_f i5).2.2.1
          rw [if_pos g3, if_pos ⟨g1, g2, g3⟩, k_43_35]
          simp only [Hcl, p1, p2, p3, p4, HF1, HF2, gd_t, decide_true, Bool.and_self, HQ, HZ, f1, f2, Rs d h2, Rs d i2, nI_add]
          rw [cc_0_121_0, s_41 L xs _ _ (by omega)]
          rfl
      · rw [if_neg g2, if_pos rfl, if_neg (fun q => g2 q.2.1), t28]
    · rw [if_neg g1, if_pos rfl, if_neg (show ¬ (m.kd s = 1 ∧ m.kd t = 1 ∧ s ≠ t) from fun q => g1 q.1), t28]
theorem JJ.c44 {m : MS} {c : CS} {d : DS} {B : AH} {T z : Nat → Nat} {V R : Nat → List Nat} {FN FI : List Nat} {ow : Nat → Nat} (hj : JJ m c d B T z V R FN FI ow) {s : Nat} (hs : s < m.K) (b : Int32) :
    ((b < 0 ∨ nI m.K ≤ b) → XM L xs 44 [.ref 1, .int (nI s), .int b] (cl B d c) = some (cl B d c, some (.int (-1)))) ∧ (∀ t, t < m.K → b = nI t → XM L xs 44 [.ref 1, .int (nI s), .int b] (cl B d c) = some (cl B d c, some (.int (if (m.kd s = 2 ∨ m.kd s = 3) ∧ m.kd s = m.kd t ∧ s ≠ t then prH (c.he s) (c.he t) else -2)))) := by
  obtain ⟨jb, js, -⟩ := id hj
  obtain ⟨p1, p2, p3, p4⟩ := id jb.1
  obtain ⟨h1, h2, h3, h4, h5, h6⟩ := hj.kin hs
  constructor
  · intro g
    have e31 := (hj.c31 L xs (nI s) b).1 (Or.inr g)
    rw [en_44, k_44_0]
    simp only [Hcl, p1, p2, p3, p4, HF1, HF2, gd_t, decide_true, Bool.and_self, HQ, HZ, cc_0_132_1, hj.c28 L xs hs, hj.c28f L xs g, bR_s]
    have key : ∀ r1, (if r1 = 0 then X L xs 44 31 [.ref 1, .int (nI s), .int b, .ref r1, .ref 0] [] (cl B d c) else X L xs 44 17 [.ref 1, .int (nI s), .int b, .ref r1, .ref 0] [] (cl B d c)) = some (cl B d c, some (.int (-1))) := by
      intro r1
      have e : X L xs 44 31 [.ref 1, .int (nI s), .int b, .ref r1, .ref 0] [] (cl B d c) = some (cl B d c, some (.int (-1))) := by
        rw [k_44_31]
        simp only [Hcl, p1, p2, p3, p4, HF1, HF2, gd_t, decide_true, Bool.and_self, HQ, HZ, cc_0_110_1, e31, bI_s]
      by_cases r0 : r1 = 0
      · rw [if_pos r0, e]
      · rw [if_neg r0, k_44_17, if_pos rfl, e]
    exact key _
  · rintro t ht rfl
    obtain ⟨i1, i2, i3, i4, i5, i6⟩ := hj.kin ht
    have e31 := (hj.c31 L xs (nI s) (nI t)).2 s t hs ht rfl rfl
    have t31 : ∀ r1 r2, X L xs 44 31 [.ref 1, .int (nI s), .int (nI t), .ref r1, .ref r2] [] (cl B d c) = some (cl B d c, some (.int (-2))) := by
      intro r1 r2
      rw [k_44_31]
      simp only [Hcl, p1, p2, p3, p4, HF1, HF2, gd_t, decide_true, Bool.and_self, HQ, HZ, cc_0_110_1, e31, bI_s]
    rw [en_44, k_44_0]
    simp only [Hcl, p1, p2, p3, p4, HF1, HF2, gd_t, decide_true, Bool.and_self, HQ, HZ, cc_0_132_1, hj.c28 L xs hs, hj.c28 L xs ht, bR_s]
    by_cases g1 : m.kd s = 2 ∨ m.kd s = 3
    · rw [if_pos g1, if_neg h3, k_44_17]
      by_cases g2 : m.kd t = 2 ∨ m.kd t = 3
      · have t3 := (hj.tgs hs).2.2.1 (by omega) (by omega)
        have u3 := (hj.tgs ht).2.2.1 (by omega) (by omega)
        rw [if_pos g2, if_neg i3, k_44_22]
        simp only [Hcl, p1, p2, p3, p4, HF1, HF2, gd_t, decide_true, Bool.and_self, HQ, HZ, dS jb.2.2.2.2.2 h2, t3, cc_0_150_3, c125 L xs h2 i2 t3 u3 c (by omega) (by omega), bI_s]
        by_cases g3 : s ≠ t ∧ c.kd s = c.kd t
        · have hz1 := hj.zle (hj.rz hs)
          have hz2 := hj.zle (hj.rz ht)
          rw [hj.he hs (by omega)] at hz1
          rw [hj.he ht (by omega)] at hz2
          rw [decide_eq_true g3, if_pos (show ¬ bI1 true = 0 from by decide), if_pos ⟨g1, by rw [← h4, ← i4]; exact g3.2, g3.1⟩, k_44_38]
          simp only [Hcl, p1, p2, p3, p4, HF1, HF2, gd_t, decide_true, Bool.and_self, HQ, HZ, t3, u3, HF3, Rs d h2, Rs d i2]
          rw [cc_0_154_0, s_42 L xs _ _ _ (by omega) (by omega)]
          rfl
        · rw [decide_eq_false g3, if_neg (show ¬ ¬ bI1 false = 0 from by decide), if_neg (fun q => g3 ⟨q.2.2, by rw [h4, i4]; exact q.2.1⟩), t31]
      · rw [if_neg g2, if_pos rfl, if_neg (fun q => g2 (by rw [← q.2.1]; exact g1)), t31]
    · rw [if_neg g1, if_pos rfl, if_neg (show ¬ ((m.kd s = 2 ∨ m.kd s = 3) ∧ m.kd s = m.kd t ∧ s ≠ t) from fun q => g1 q.1), t31]
end Prc
