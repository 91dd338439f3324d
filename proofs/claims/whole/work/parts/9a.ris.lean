-- rise
section Ris
variable (L : Nat) (xs : Nat → Int32)
theorem rise_loop {i n s A : Nat} {k : Int64} (hn : n ≤ 2000) {h : AH} (hh : MB h) : ∀ (r : Nat) (B : AH) (m : MS) (c : CS) (d : DS) (w : Nat), Inv i B m c d → s < m.K → d.sa (s + 1) = A → w + r = n →
    ∃ (B' : AH) (c' : CS) (d' : DS) (m' : MS) (D : Nat), (∀ m0, X L xs 4 31 [.ref 1, .int (nI s), .long k, .null, .int (nI n), .ref A, .int (nI w)] [] (cl (ml B m0) d c) = some (cl (ml B' m0) d' c', some (.int (nI D)))) ∧ MB B' ∧ (∀ l6 : Value, X L xs 103 27 [.ref 8, .int (nI s), .long k, .null, .int (nI n), .int (nI w), l6] [] (ml h m) = some (ml h m', some (.int (nI D)))) ∧ Inv i (ml B' m') m' c' d' := by
  obtain ⟨b1, b2, b3, b4⟩ := id hh
  have c20 : (20000 : Int32) = nI 20000 := by decide +kernel
  intro r
  induction r with
  | zero =>
    intro B m c d w hI hs hA hw
    have e : w = n := by omega
    refine ⟨B, c, d, m, w, fun m0 => ?_, hI.2.2.2.choose_spec.choose_spec.choose_spec.choose_spec.choose_spec.choose_spec.choose_spec.1.2.1, fun l6 => ?_, by rw [hI.1]; exact hI⟩
    · rw [k_4_31, if_pos (by rw [(nI_iff (by omega) (by omega)).1]; omega), k_4_66]
    · rw [k_103_27, if_pos (by rw [(nI_iff (by omega) (by omega)).1]; omega), k_103_95]
  | succ r ih =>
    intro B m c d w hI hs hA hw
    obtain ⟨e0, ja, jq, T, z, V, R, FN, FI, ow, hj⟩ := id hI
    obtain ⟨jb, js, -⟩ := id hj
    obtain ⟨n1, n2, n3, n4, n5, n6⟩ := ja.2.2.1
    obtain ⟨h1, h2, h3, h4, h5, h6⟩ := hj.kin hs
    have hEq : c.E = m.E := ja.2.1.2.2.1
    have hE := hj.E
    have hK := hj.K
    have e34 : ∀ m0, XM L xs 34 [.ref 1] (cl (ml B m0) d c) = some (cl (ml B m0) d c, some (.int (bI1 (decide (m.E = 20000 ∨ m.N = 20000))))) := fun m0 => by
      have := c34 L xs (CB_ml jb.1 m0) d c (by omega) (by omega)
      rw [hEq, n1] at this
      exact this
    have cst : ∀ m0, X L xs 4 31 [.ref 1, .int (nI s), .long k, .null, .int (nI n), .ref A, .int (nI w)] [] (cl (ml B m0) d c) = if m.E = 20000 ∨ m.N = 20000 then some (cl (ml B m0) d c, some (.int (nI w))) else X L xs 4 45 [.ref 1, .int (nI s), .long k, .null, .int (nI n), .ref A, .int (nI w)] [] (cl (ml B m0) d c) := fun m0 => by
      obtain ⟨p1, p2, p3, p4⟩ := id (CB_ml jb.1 m0)
      rw [k_4_31, if_neg (by rw [(nI_iff (by omega) (by omega)).1]; omega), k_4_38]
      simp only [Hcl, p1, p2, p3, p4, HF1, HF2, gd_t, decide_true, Bool.and_self, HQ, HZ, cc_0_35_1, e34 m0, bI_s]
      by_cases g : m.E = 20000 ∨ m.N = 20000
      · rw [if_pos g, decide_eq_true g, if_pos (show ¬ bI1 true = 0 from by decide), k_4_66]
      · rw [if_neg g, decide_eq_false g, if_neg (show ¬ ¬ bI1 false = 0 from by decide)]
    have mst : ∀ l6 : Value, X L xs 103 27 [.ref 8, .int (nI s), .long k, .null, .int (nI n), .int (nI w), l6] [] (ml h m) = if m.E = 20000 ∨ m.N = 20000 then some (ml h m, some (.int (nI w))) else X L xs 103 54 [.ref 8, .int (nI s), .long k, .null, .int (nI n), .int (nI w), l6] [] (ml h m) := fun l6 => by
      rw [k_103_27, if_neg (by rw [(nI_iff (by omega) (by omega)).1]; omega), k_103_34]
      simp only [Hml, b1, b2, b3, b4, HF10, gd_t, decide_true, Bool.and_self, HQ, HZ]
      rw [c20]
      by_cases g : m.E = 20000
      · rw [if_pos (by rw [(nI_iff (by omega) (by omega)).1]; omega), if_pos (Or.inl g), k_103_95]
      · rw [if_neg (by rw [(nI_iff (by omega) (by omega)).1]; omega), k_103_44]
        simp only [Hml, b1, b2, b3, b4, HF10, gd_t, decide_true, Bool.and_self, HQ, HZ]
        rw [c20]
        by_cases g2 : m.N = 20000
        · rw [if_pos (by rw [(nI_iff (by omega) (by omega)).1]; omega), if_pos (Or.inr g2), k_103_95]
        · rw [if_neg (by rw [(nI_iff (by omega) (by omega)).1]; omega), if_neg (fun q => q.elim g g2)]
    by_cases full : m.E = 20000 ∨ m.N = 20000
    · exact ⟨B, c, d, m, w, fun m0 => by rw [cst m0, if_pos full], jb.2.1, fun l6 => by rw [mst l6, if_pos full], by rw [e0]; exact hI⟩
    · have gE : m.E ≠ 20000 := fun q => full (Or.inl q)
      have gN : m.N ≠ 20000 := fun q => full (Or.inr q)
      obtain ⟨B1, c1, d1, r1, q1, q2, q3, q4⟩ := bring_any L xs hI hs (by omega) (by omega) (k + (nI w).toInt64) (nI w)
      obtain ⟨m1, q5, q6, q7, q8⟩ := q4 h hh
      obtain ⟨B', c', d', m', D, y1, y2, y3, y4⟩ := ih (ml B1 m1) m1 c1 d1 (w + 1) q6 (by rw [q8]; exact hs) (by rw [q2]; exact hA) (by omega)
      refine ⟨B', c', d', m', D, fun m0 => ?_, y2, fun l6 => ?_, y4⟩
      · obtain ⟨p1, p2, p3, p4⟩ := id (CB_ml jb.1 m0)
        have e := q1 m0
        rw [hA] at e
        have y := y1 m0
        rw [ml_idem] at y
        rw [cst m0, if_neg full, k_4_45]
        simp only [Hcl, p1, p2, p3, p4, HF1, HF2, gd_t, decide_true, Bool.and_self, HQ, HZ, cc_0_39_1, e, bI_s, nI_1]
        exact y
      · rw [mst l6, if_neg full, k_103_54]
        simp only [Hml, b1, b2, b3, b4, HF10, gd_t, decide_true, Bool.and_self, HQ, HZ, cc_9_113_10, m_62 L xs hh m (show s < 40 by omega) h5, bI_s]
        by_cases g : 4 ≤ m.kd s
        · rw [if_pos g] at q5
          rw [decide_eq_true g, if_neg (show ¬ bI1 true = 0 from by decide), k_103_62]
          simp only [Hml, b1, b2, b3, b4, HF10, gd_t, decide_true, Bool.and_self, HQ, HZ, cc_9_250_10, q5, bI_s]
          rw [k_103_87, nI_1]
          exact y3 _
        · rw [if_neg g] at q5
          rw [decide_eq_false g, if_pos (show bI1 false = 0 from by decide), k_103_75]
          simp only [Hml, b1, b2, b3, b4, HF10, gd_t, decide_true, Bool.and_self, HQ, HZ, cc_9_178_10, q5, bI_s]
          rw [k_103_87, nI_1]
          exact y3 _
theorem q_rise {i : Nat} {B : AH} {m : MS} {c : CS} {d : DS} (hI : Inv i B m c d) (a : Int32) (k : Int64) (v : Int32) : Ans L xs i B m c d 4 103 [.int a, .long k, .int v] := by
  obtain ⟨e0, ja, jq, T, z, V, R, FN, FI, ow, hj⟩ := id hI
  obtain ⟨jb, js, jt, jr, jp, jd, jv, ji, jf, jw, jh, jz, jl⟩ := id hj
  obtain ⟨p1, p2, p3, p4⟩ := id jb.1
  have hw := jb.2.2.2.2.2
  have hK := hj.K
  have c2000 : (2000 : Int32) = nI 2000 := by decide +kernel
  rcases st_of hK.1 a with ha | ⟨s, hs, rfl⟩
  · refine Ans.of L xs (B' := B) (c' := c) (d' := d) (r := .int (-1)) ?_ e0 jb.2.1 (fun h hh => ⟨m, ?_, hI.stay⟩)
    · rw [en_4, k_4_0]
      simp only [Hcl, p1, p2, p3, p4, HF1, HF2, gd_t, decide_true, Bool.and_self, HQ, HZ, cc_0_30_1, hj.c25f L xs ha, bR_s, if_true]
      rw [k_4_26]
    · obtain ⟨b1, b2, b3, b4⟩ := id hh
      rw [en_103, k_103_0]
      simp only [Hml, b1, b2, b3, b4, HF10, gd_t, decide_true, Bool.and_self, HQ, HZ, cc_9_175_10, m_63_f L xs hh m ha, bI_s, if_true, k_103_22]
  · obtain ⟨h1, h2, h3, h4, h5, h6⟩ := hj.kin hs
    have cpre : XM L xs 4 [.ref 1, .int (nI s), .long k, .int v] (cl B d c) = X L xs 4 12 [.ref 1, .int (nI s), .long k, .null, .int v, .ref (d.sa (s + 1)), .null] [] (cl B d c) := by
      rw [en_4, k_4_0]
      simp only [Hcl, p1, p2, p3, p4, HF1, HF2, gd_t, decide_true, Bool.and_self, HQ, HZ, cc_0_30_1, hj.c25 L xs hs, bR_s, h3, if_false]
    have mpre : ∀ h, MB h → XM L xs 103 [.ref 8, .int (nI s), .long k, .int v] (ml h m) = X L xs 103 8 [.ref 8, .int (nI s), .long k, .null, .int v, .null, .null] [] (ml h m) := by
      intro h hh
      obtain ⟨b1, b2, b3, b4⟩ := id hh
      rw [en_103, k_103_0]
      simp only [Hml, b1, b2, b3, b4, HF10, gd_t, decide_true, Bool.and_self, HQ, HZ, cc_9_175_10, m_63_t L xs hh m hs hK.1, bI_s, show ¬ (1 : Int32) = 0 from by decide, if_false]
    by_cases v1 : v < 1
    · refine Ans.of L xs (B' := B) (c' := c) (d' := d) (r := .int (-1)) ?_ e0 jb.2.1 (fun h hh => ⟨m, ?_, hI.stay⟩)
      · rw [cpre, k_4_12, if_pos v1, k_4_26]
      · rw [mpre h hh, k_103_8, if_pos v1, k_103_22]
    · by_cases v2 : v ≤ 2000
      · have v0 : ¬ v < 0 := fun q => v1 (Int32.lt_of_lt_of_le q (by decide))
        obtain ⟨n, hn, rfl⟩ := nn_of v0
        have hn2 : n ≤ 2000 := by
          rw [c2000, (nI_iff hn (by decide)).1] at v2
          exact v2
        have cst : XM L xs 4 [.ref 1, .int (nI s), .long k, .int (nI n)] (cl B d c) = X L xs 4 31 [.ref 1, .int (nI s), .long k, .null, .int (nI n), .ref (d.sa (s + 1)), .int (nI 0)] [] (cl (ml B m) d c) := by
          rw [cpre, k_4_12, if_neg v1, k_4_18, if_pos v2, k_4_28, e0]
          rfl
        obtain ⟨B1, c1, d1, m1, D1, a1, a2, -, -⟩ := rise_loop L xs (k := k) hn2 jb.2.1 n B m c d 0 hI hs rfl (by omega)
        obtain ⟨B2, c2, d2, m2, D2, g1, g2, g3, g4⟩ := rise_loop L xs (k := k) hn2 (h := cl (ml B1 m) d1 c1) (MB_cl (MB_ml a2 m) d1 c1) n B m c d 0 hI hs rfl (by omega)
        have es := (a1 m).symm.trans (g1 m)
        have eH : cl (ml B1 m) d1 c1 = cl (ml B2 m) d2 c2 := (Prod.mk.inj (Option.some.inj es)).1
        refine ⟨ml B2 m, c2, d2, m2, .int (nI D2), cst.trans (g1 m), ?_, ?_, rfl⟩
        · rw [eH, ml_clb (ml_idem B2 m m), ml_cl] at g3
          have := mpre (cl (ml B2 m) d2 c2) (MB_cl (MB_ml g2 m) d2 c2)
          rw [ml_clb (ml_idem B2 m m)] at this
          refine this.trans ?_
          rw [k_103_8, if_neg v1, k_103_14, if_pos v2, k_103_24]
          exact g3 _
        · rw [ml_idem]
          exact g4.up
      · refine Ans.of L xs (B' := B) (c' := c) (d' := d) (r := .int (-1)) ?_ e0 jb.2.1 (fun h hh => ⟨m, ?_, hI.stay⟩)
        · rw [cpre, k_4_12, if_neg v1, k_4_18, if_neg v2, k_4_26]
        · rw [mpre h hh, k_103_8, if_neg v1, k_103_14, if_neg v2, k_103_22]
end Ris
