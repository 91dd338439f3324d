-- insert, push, rise
section Brg
variable (L : Nat) (xs : Nat → Int32)
theorem bring_any {i : Nat} {B : AH} {m : MS} {c : CS} {d : DS} (hI : Inv i B m c d) {s : Nat} (hs : s < m.K) (hE : m.E < 20000) (hN : m.N < 20000) (k : Int64) (v : Int32) : BrgOK L xs i B m c d s k v := by
  by_cases h1 : m.kd s ≤ 1
  · exact bring_tree L xs hI hs h1 hE hN k v
  · by_cases h2 : m.kd s ≤ 3
    · exact bring_heap L xs hI hs ⟨by omega, h2⟩ hE hN k v
    · exact bring_row L xs hI hs (by omega) hE hN k v
theorem BrgOK.ans {i : Nat} {B : AH} {m : MS} {c : CS} {d : DS} {s : Nat} {k : Int64} {v : Int32} (hI : Inv i B m c d) (hb : BrgOK L xs i B m c d s k v) {M M' : Nat} {as : List Value} (hM : mrk M = 1) (hc : ∀ H r, XM L xs 35 [.ref 1, .int (nI s), .ref (d.sa (s + 1)), .long k, .int v] (cl B d c) = some (H, some (.int r)) → XM L xs M (.ref 1 :: as) (cl B d c) = some (H, some (.int r)))
    (hm : ∀ h, MB h → ∀ H r, (if 4 ≤ m.kd s then XM L xs 97 [.ref 8, .int (nI s), .long k] (ml h m) else XM L xs 74 [.ref 8, .int (nI s), .long k, .int v] (ml h m)) = some (H, some (.int r)) → XM L xs M' (.ref 8 :: as) (ml h m) = some (H, some (.int r))) : Ans L xs i B m c d M M' as := by
  obtain ⟨B', c', d', r, b1, b2, b3, b4⟩ := hb
  have e0 := hI.1
  have e1 := b1 m
  rw [e0] at e1
  refine Ans.of L xs (B' := ml B' m) (c' := c') (d' := d') (r := .int r) (hc _ _ e1) (ml_idem B' m m) (MB_ml b3 m) (fun h hh => ?_) hM.symm
  obtain ⟨m', b5, b6, -⟩ := b4 h hh
  refine ⟨m', hm h hh _ _ b5, ?_⟩
  rw [ml_idem]
  exact b6.up
theorem q_insert {i : Nat} {B : AH} {m : MS} {c : CS} {d : DS} (hI : Inv i B m c d) (a : Int32) (k : Int64) (v : Int32) : Ans L xs i B m c d 3 75 [.int a, .long k, .int v] := by
  obtain ⟨e0, ja, jq, T, z, V, R, FN, FI, ow, hj⟩ := id hI
  obtain ⟨jb, js, jt, jr, jp, jd, jv, ji, jf, jw, jh, jz, jl⟩ := id hj
  obtain ⟨p1, p2, p3, p4⟩ := id jb.1
  obtain ⟨n1, n2, n3, n4, n5, n6⟩ := ja.2.2.1
  have hEq : c.E = m.E := ja.2.1.2.2.1
  have hE := hj.E
  have hw := jb.2.2.2.2.2
  have hK := hj.K
  have c20 : (20000 : Int32) = nI 20000 := by decide +kernel
  rcases st_of hK.1 a with ha | ⟨s, hs, rfl⟩
  · refine Ans.of L xs (B' := B) (c' := c) (d' := d) (r := .int (-1)) ?_ e0 jb.2.1 (fun h hh => ⟨m, ?_, hI.stay⟩)
    · rw [en_3, k_3_0]
      simp only [Hcl, p1, p2, p3, p4, HF1, HF2, gd_t, decide_true, Bool.and_self, HQ, HZ, cc_0_30_1, hj.c25f L xs ha, bR_s, if_true]
      rw [k_3_12]
    · obtain ⟨b1, b2, b3, b4⟩ := id hh
      rw [en_75, k_75_0]
      simp only [Hml, b1, b2, b3, b4, HF10, gd_t, decide_true, Bool.and_self, HQ, HZ, cc_9_175_10, m_63_f L xs hh m ha, bI_s, not_true, if_false, k_75_8]
  · obtain ⟨h1, h2, h3, h4, h5, h6⟩ := hj.kin hs
    have hs40 : s < 40 := by omega
    have hs31 : s < 2 ^ 31 := by omega
    have mpre : ∀ h, MB h → XM L xs 75 [.ref 8, .int (nI s), .long k, .int v] (ml h m) = if 4 ≤ m.kd s then some (ml h m, some (.int (-2))) else X L xs 75 21 [.ref 8, .int (nI s), .long k, .null, .int v] [] (ml h m) := by
      intro h hh
      obtain ⟨b1, b2, b3, b4⟩ := id hh
      rw [en_75, k_75_0]
      simp only [Hml, b1, b2, b3, b4, HF10, gd_t, decide_true, Bool.and_self, HQ, HZ, cc_9_175_10, m_63_t L xs hh m hs hK.1, bI_s, show ¬ (1 : Int32) = 0 from by decide, not_false_eq_true, if_true]
      rw [k_75_10]
      simp only [Hml, b1, b2, b3, b4, HF10, gd_t, decide_true, Bool.and_self, HQ, HZ, cc_9_113_10, m_62 L xs hh m hs40 h5, bI_s]
      by_cases g : 4 ≤ m.kd s
      · rw [decide_eq_true g, if_neg (show ¬ bI1 true = 0 from by decide), if_pos g, k_75_18]
      · rw [decide_eq_false g, if_pos (show bI1 false = 0 from by decide), if_neg g]
    have cpre : XM L xs 3 [.ref 1, .int (nI s), .long k, .int v] (cl B d c) = if 4 ≤ m.kd s then some (cl B d c, some (.int (-2))) else X L xs 3 25 [.ref 1, .int (nI s), .long k, .null, .int v, .ref (d.sa (s + 1))] [] (cl B d c) := by
      rw [en_3, k_3_0]
      simp only [Hcl, p1, p2, p3, p4, HF1, HF2, gd_t, decide_true, Bool.and_self, HQ, HZ, cc_0_30_1, hj.c25 L xs hs, bR_s, h3, if_false]
      rw [k_3_14, if_neg h3]
      obtain ⟨t1, t2, t3, t4⟩ := hj.tgs hs
      by_cases g : 4 ≤ m.kd s
      · rw [if_pos g]
        simp only [Hcl, gd_t, t4 g, show ins 5 6 = some 1 from rfl, true_or, decide_true, if_true]
        rw [if_neg (by decide), k_3_22]
      · rw [if_neg g]
        have tt : tg B (d.sa (s + 1)) = 3 ∨ tg B (d.sa (s + 1)) = 5 ∨ tg B (d.sa (s + 1)) = 7 := by
          rcases Nat.lt_or_ge (m.kd s) 2 with q | q
          · rcases Nat.eq_zero_or_pos (m.kd s) with q2 | q2
            · exact Or.inr (Or.inl (t1 q2))
            · exact Or.inr (Or.inr (t2 (by omega)))
          · exact Or.inl (t3 q (by omega))
        rcases tt with q | q | q
        · simp only [Hcl, gd_t, q, show ins 5 3 = some 0 from rfl, or_true, decide_true, show ¬ (some 0 = some 1) from by decide, if_false, if_true]
        · simp only [Hcl, gd_t, q, show ins 5 5 = some 0 from rfl, or_true, decide_true, show ¬ (some 0 = some 1) from by decide, if_false, if_true]
        · simp only [Hcl, gd_t, q, show ins 5 7 = some 0 from rfl, or_true, decide_true, show ¬ (some 0 = some 1) from by decide, if_false, if_true]
    by_cases hk : 4 ≤ m.kd s
    · exact Ans.of L xs (B' := B) (c' := c) (d' := d) (r := .int (-2)) (by rw [cpre, if_pos hk]) e0 jb.2.1 (fun h hh => ⟨m, by rw [mpre h hh, if_pos hk], hI.stay⟩)
    · rw [if_neg hk] at cpre
      have e34 := c34 L xs jb.1 d c (by omega) (by omega)
      rw [hEq, n1] at e34
      rw [k_3_25] at cpre
      simp only [Hcl, p1, p2, p3, p4, HF1, HF2, gd_t, decide_true, Bool.and_self, HQ, HZ, cc_0_35_1, e34, bI_s] at cpre
      by_cases full : m.E = 20000 ∨ m.N = 20000
      · rw [decide_eq_true full, if_neg (show ¬ bI1 true = 0 from by decide), k_3_32, k_3_47] at cpre
        refine Ans.of L xs (B' := B) (c' := c) (d' := d) (r := .int (-5)) cpre e0 jb.2.1 (fun h hh => ⟨m, ?_, hI.stay⟩)
        obtain ⟨b1, b2, b3, b4⟩ := id hh
        rw [mpre h hh, if_neg hk, k_75_21]
        simp only [Hml, b1, b2, b3, b4, HF10, gd_t, decide_true, Bool.and_self, HQ, HZ]
        by_cases g : m.E = 20000
        · rw [g, c20, if_pos rfl, k_75_41, k_75_54]
        · have g2 := full.resolve_left g
          rw [c20, if_neg (by rw [nI_eq (by omega) (by omega)]; exact g), k_75_31]
          simp only [Hml, b1, b2, b3, b4, HF10, gd_t, decide_true, Bool.and_self, HQ, HZ]
          rw [g2, c20, if_neg (fun q => q rfl), k_75_41, k_75_54]
      · rw [decide_eq_false full, if_pos (show bI1 false = 0 from by decide)] at cpre
        have gE : m.E ≠ 20000 := fun q => full (Or.inl q)
        have gN : m.N ≠ 20000 := fun q => full (Or.inr q)
        refine BrgOK.ans L xs hI (bring_any L xs hI hs (by omega) (by omega) k v) rfl (fun H r e => ?_) (fun h hh H r e => ?_)
        · rw [cpre, k_3_37]
          simp only [Hcl, p1, p2, p3, p4, HF1, HF2, gd_t, decide_true, Bool.and_self, HQ, HZ, cc_0_39_1, e, bI_s, k_3_47]
        · obtain ⟨b1, b2, b3, b4⟩ := id hh
          rw [if_neg hk] at e
          rw [mpre h hh, if_neg hk, k_75_21]
          simp only [Hml, b1, b2, b3, b4, HF10, gd_t, decide_true, Bool.and_self, HQ, HZ]
          rw [c20, if_neg (by rw [nI_eq (by omega) (by omega)]; exact gE), k_75_31]
          simp only [Hml, b1, b2, b3, b4, HF10, gd_t, decide_true, Bool.and_self, HQ, HZ]
          rw [c20, if_pos (by rw [nI_eq (by omega) (by omega)]; exact gN), k_75_46]
          simp only [Hml, b1, b2, b3, b4, HF10, gd_t, decide_true, Bool.and_self, HQ, HZ, cc_9_178_10, e, bI_s, k_75_54]
theorem q_push {i : Nat} {B : AH} {m : MS} {c : CS} {d : DS} (hI : Inv i B m c d) (a : Int32) (k : Int64) : Ans L xs i B m c d 13 98 [.int a, .long k] := by
  obtain ⟨e0, ja, jq, T, z, V, R, FN, FI, ow, hj⟩ := id hI
  obtain ⟨jb, js, jt, jr, jp, jd, jv, ji, jf, jw, jh, jz, jl⟩ := id hj
  obtain ⟨p1, p2, p3, p4⟩ := id jb.1
  obtain ⟨n1, n2, n3, n4, n5, n6⟩ := ja.2.2.1
  have hEq : c.E = m.E := ja.2.1.2.2.1
  have hE := hj.E
  have hw := jb.2.2.2.2.2
  have hK := hj.K
  have c20 : (20000 : Int32) = nI 20000 := by decide +kernel
  rcases st_of hK.1 a with ha | ⟨s, hs, rfl⟩
  · refine Ans.of L xs (B' := B) (c' := c) (d' := d) (r := .int (-1)) ?_ e0 jb.2.1 (fun h hh => ⟨m, ?_, hI.stay⟩)
    · rw [en_13, k_13_0]
      simp only [Hcl, p1, p2, p3, p4, HF1, HF2, gd_t, decide_true, Bool.and_self, HQ, HZ, cc_0_160_1, hj.c29f L xs ha, bR_s, if_true]
      rw [k_13_12]
      simp only [Hcl, p1, p2, p3, p4, HF1, HF2, gd_t, decide_true, Bool.and_self, HQ, HZ, cc_0_47_1, hj.c30f L xs ha, bI_s]
    · obtain ⟨b1, b2, b3, b4⟩ := id hh
      rw [en_98, k_98_0]
      simp only [Hml, b1, b2, b3, b4, HF10, gd_t, decide_true, Bool.and_self, HQ, HZ, cc_9_175_10, m_63_f L xs hh m ha, bI_s, not_true, if_false, k_98_8]
  · obtain ⟨h1, h2, h3, h4, h5, h6⟩ := hj.kin hs
    have hs40 : s < 40 := by omega
    have hs31 : s < 2 ^ 31 := by omega
    have mpre : ∀ h, MB h → XM L xs 98 [.ref 8, .int (nI s), .long k] (ml h m) = if 4 ≤ m.kd s then X L xs 98 21 [.ref 8, .int (nI s), .long k, .null] [] (ml h m) else some (ml h m, some (.int (-2))) := by
      intro h hh
      obtain ⟨b1, b2, b3, b4⟩ := id hh
      rw [en_98, k_98_0]
      simp only [Hml, b1, b2, b3, b4, HF10, gd_t, decide_true, Bool.and_self, HQ, HZ, cc_9_175_10, m_63_t L xs hh m hs hK.1, bI_s, show ¬ (1 : Int32) = 0 from by decide, not_false_eq_true, if_true]
      rw [k_98_10]
      simp only [Hml, b1, b2, b3, b4, HF10, gd_t, decide_true, Bool.and_self, HQ, HZ, cc_9_113_10, m_62 L xs hh m hs40 h5, bI_s]
      by_cases g : 4 ≤ m.kd s
      · rw [decide_eq_true g, if_pos (show ¬ bI1 true = 0 from by decide), if_pos g]
      · rw [decide_eq_false g, if_neg (show ¬ ¬ bI1 false = 0 from by decide), if_neg g, k_98_18]
    by_cases hk : 4 ≤ m.kd s
    · have cpre : ∀ Y, X L xs 13 18 [.ref 1, .int (nI s), .long k, klL .null, .ref (d.sa (s + 1))] [] (cl B d c) = Y → XM L xs 13 [.ref 1, .int (nI s), .long k] (cl B d c) = Y := by
        intro Y hY
        rw [en_13, k_13_0]
        simp only [Hcl, p1, p2, p3, p4, HF1, HF2, gd_t, decide_true, Bool.and_self, HQ, HZ, cc_0_160_1, hj.c29 L xs hs, hk, if_true, bR_s, h3, if_false]
        exact hY
      have e34 := c34 L xs jb.1 d c (by omega) (by omega)
      rw [hEq, n1] at e34
      by_cases full : m.E = 20000 ∨ m.N = 20000
      · refine Ans.of L xs (B' := B) (c' := c) (d' := d) (r := .int (-5)) (cpre _ ?_) e0 jb.2.1 (fun h hh => ⟨m, ?_, hI.stay⟩)
        · rw [k_13_18]
          simp only [Hcl, p1, p2, p3, p4, HF1, HF2, gd_t, decide_true, Bool.and_self, HQ, HZ, cc_0_35_1, e34, bI_s]
          rw [decide_eq_true full, if_neg (show ¬ bI1 true = 0 from by decide), k_13_25, k_13_39]
        · obtain ⟨b1, b2, b3, b4⟩ := id hh
          rw [mpre h hh, if_pos hk, k_98_21]
          simp only [Hml, b1, b2, b3, b4, HF10, gd_t, decide_true, Bool.and_self, HQ, HZ]
          by_cases g : m.E = 20000
          · rw [g, c20, if_pos rfl, k_98_41, k_98_52]
          · have g2 := full.resolve_left g
            rw [c20, if_neg (by rw [nI_eq (by omega) (by omega)]; exact g), k_98_31]
            simp only [Hml, b1, b2, b3, b4, HF10, gd_t, decide_true, Bool.and_self, HQ, HZ]
            rw [g2, c20, if_neg (fun q => q rfl), k_98_41, k_98_52]
      · have gE : m.E ≠ 20000 := fun q => full (Or.inl q)
        have gN : m.N ≠ 20000 := fun q => full (Or.inr q)
        refine BrgOK.ans L xs hI (bring_any L xs hI hs (by omega) (by omega) k 0) rfl (fun H r e => cpre _ ?_) (fun h hh H r e => ?_)
        · rw [k_13_18]
          simp only [Hcl, p1, p2, p3, p4, HF1, HF2, gd_t, decide_true, Bool.and_self, HQ, HZ, cc_0_35_1, e34, bI_s]
          rw [decide_eq_false full, if_pos (show bI1 false = 0 from by decide), k_13_30]
          simp only [Hcl, p1, p2, p3, p4, HF1, HF2, gd_t, decide_true, Bool.and_self, HQ, HZ, cc_0_39_1, e, bI_s, k_13_39]
        · obtain ⟨b1, b2, b3, b4⟩ := id hh
          rw [if_pos hk] at e
          rw [mpre h hh, if_pos hk, k_98_21]
          simp only [Hml, b1, b2, b3, b4, HF10, gd_t, decide_true, Bool.and_self, HQ, HZ]
          rw [c20, if_neg (by rw [nI_eq (by omega) (by omega)]; exact gE), k_98_31]
          simp only [Hml, b1, b2, b3, b4, HF10, gd_t, decide_true, Bool.and_self, HQ, HZ]
          rw [c20, if_pos (by rw [nI_eq (by omega) (by omega)]; exact gN), k_98_46]
          simp only [Hml, b1, b2, b3, b4, HF10, gd_t, decide_true, Bool.and_self, HQ, HZ, cc_9_250_10, e, bI_s, k_98_52]
    · refine Ans.of L xs (B' := B) (c' := c) (d' := d) (r := .int (-2)) ?_ e0 jb.2.1 (fun h hh => ⟨m, by rw [mpre h hh, if_neg hk], hI.stay⟩)
      rw [en_13, k_13_0]
      simp only [Hcl, p1, p2, p3, p4, HF1, HF2, gd_t, decide_true, Bool.and_self, HQ, HZ, cc_0_160_1, hj.c29 L xs hs, hk, if_false, bR_s, if_true]
      rw [k_13_12]
      simp only [Hcl, p1, p2, p3, p4, HF1, HF2, gd_t, decide_true, Bool.and_self, HQ, HZ, cc_0_47_1, hj.c30 L xs hs, bI_s]
end Brg
