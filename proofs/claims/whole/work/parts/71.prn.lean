-- price
section Prq
variable (L : Nat) (xs : Nat → Int32)
theorem JJ.c45 {m : MS} {c : CS} {d : DS} {B : AH} {T z : Nat → Nat} {V R : Nat → List Nat} {FN FI : List Nat} {ow : Nat → Nat} (hj : JJ m c d B T z V R FN FI ow) {s : Nat} (hs : s < m.K) :
    XM L xs 45 [.ref (d.sa (s + 1))] (cl B d c) = some (cl B d c, some (.int (if m.kd s ≤ 1 then -2 else if c.he s = 0 then -3 else if m.kd s ≤ 3 then prH (z (c.P.1 (c.ro s))) (z (c.P.2.1 (c.ro s))) else 3))) := by
  obtain ⟨jb, js, jt, jr, jp, jd, jv, ji, jf, jw, jh, jz, jl⟩ := id hj
  obtain ⟨h1, h2, h3, h4, h5, h6⟩ := hj.kin hs
  have hw := jb.2.2.2.2.2
  have f14 : hasF (tg B (d.sa (s + 1))) 14 = true := by rw [h6]; exact (tgS_f h5).2.2.1
  have hh : c.he s ≤ 20000 := by
    by_cases g : m.kd s ≤ 3
    · rw [← hj.he hs g]; exact hj.zle (hj.rz hs)
    · obtain ⟨r1, r2, r3, r4, r5, r6, r7⟩ := hj.row hs (by omega)
      omega
  have z10 : ∀ w : Nat, (nI w = 0) = (nI w = nI 0) := fun w => by rw [nI_0]
  rw [en_45, k_45_0, if_neg h3]
  rcases tgS_all h5 with ⟨q, g⟩ | ⟨q, g⟩ | ⟨q, g⟩ | ⟨q, g⟩
  · have t := h6.trans g
    simp only [Hcl, gd_t, decide_true, Bool.and_self, HQ, HZ, t, show ins 11 5 = some 1 from rfl, or_true, true_or, if_true, show ¬ (1 : Int32) = 0 from by decide, if_false, k_45_7]
    rw [if_pos (show m.kd s ≤ 1 by omega)]
  · have t := h6.trans g
    simp only [Hcl, gd_t, decide_true, Bool.and_self, HQ, HZ, t, show ins 11 7 = some 1 from rfl, or_true, true_or, if_true, show ¬ (1 : Int32) = 0 from by decide, if_false, k_45_7]
    rw [if_pos (show m.kd s ≤ 1 by omega)]
  · have t := h6.trans g
    have hs3 : m.kd s ≤ 3 := by omega
    simp only [Hcl, gd_t, decide_true, Bool.and_self, HQ, HZ, t, show ins 11 3 = some 0 from rfl, or_true, true_or, show ¬ (some 0 : Option Nat) = some 1 from by decide, if_true, if_false]
    rw [k_45_10, if_neg (show ¬ m.kd s ≤ 1 by omega)]
    simp only [Hcl, gd_t, decide_true, Bool.and_self, HQ, HZ, f14, Rs d h2, z10, nI_eq (show c.he s < 2 ^ 31 by omega) (show 0 < 2 ^ 31 by decide)]
    by_cases e : c.he s = 0
    · rw [if_neg (fun q => q e), if_pos e, k_45_17]
    · have r0 : c.ro s ≠ 0 := fun q => e (by rw [← hj.he hs hs3, q]; exact jt.1.2.1)
      have tr : T (c.ro s) ≠ 0 := (hj.rz hs).resolve_left r0
      have tk : T (c.ro s) = s + 1 := ((jr s hs).2.2.1 r0).1
      have zz1 : ∀ x, LZ T x → (x ≠ 0 → T x = T (c.ro s)) → zC c x = z x := by
        intro x hx he
        unfold zC
        by_cases x0 : x = 0
        · rw [if_pos x0, x0, jt.1.2.1]
        · rw [if_neg x0]
          exact jz.2.1 x (hx.resolve_left x0) (by rw [he x0, tk, Nat.add_sub_cancel]; omega)
      have w := jt.1.2.2 _ tr
      have zl := zz1 _ (jt.1.lzl tr) (fun q => (w.1 q).2)
      have zr := zz1 _ (jt.1.lzr tr) (fun q => (w.2.1 q).2)
      have b1 := hj.zle (jt.1.lzl tr)
      have b2 := hj.zle (jt.1.lzr tr)
      have e3 := c123_n L xs hw jb.2.2.2.1 h2 t c r0 (hj.hD _ (Or.inr tr)) (hj.hD _ (jt.1.lzl tr)) (hj.hD _ (jt.1.lzr tr)) (by rw [zl]; omega) (by rw [zr]; omega)
      rw [zl, zr] at e3
      rw [if_pos e, if_neg e, if_pos hs3, k_45_20, if_neg h3]
      simp only [Hcl, gd_t, decide_true, Bool.and_self, HQ, HZ, t, show ins 2 3 = some 1 from rfl, or_true, true_or, if_true, show ¬ (1 : Int32) = 0 from by decide, if_false]
      rw [k_45_27]
      simp only [Hcl, gd_t, decide_true, Bool.and_self, HQ, HZ, t, show ins 2 3 = some 1 from rfl, Bool.or_true, dS hw h2, cc_0_142_3, e3, bI_s, k_45_40]
  · have t := h6.trans g
    simp only [Hcl, gd_t, decide_true, Bool.and_self, HQ, HZ, t, show ins 11 6 = some 0 from rfl, or_true, true_or, show ¬ (some 0 : Option Nat) = some 1 from by decide, if_true, if_false]
    rw [k_45_10, if_neg (show ¬ m.kd s ≤ 1 by omega)]
    simp only [Hcl, gd_t, decide_true, Bool.and_self, HQ, HZ, f14, Rs d h2, z10, nI_eq (show c.he s < 2 ^ 31 by omega) (show 0 < 2 ^ 31 by decide)]
    by_cases e : c.he s = 0
    · rw [if_neg (fun q => q e), if_pos e, k_45_17]
    · rw [if_pos e, if_neg e, if_neg (show ¬ m.kd s ≤ 3 by omega), k_45_20, if_neg h3]
      simp only [Hcl, gd_t, decide_true, Bool.and_self, HQ, HZ, t, show ins 2 6 = some 0 from rfl, or_true, true_or, show ¬ (some 0 : Option Nat) = some 1 from by decide, if_true, if_false, k_45_39, k_45_40]
theorem q_price_c {B : AH} {m : MS} {c : CS} {d : DS} {T z : Nat → Nat} {V R : Nat → List Nat} {FN FI : List Nat} {ow : Nat → Nat} (hj : JJ m c d B T z V R FN FI ow) {s : Nat} (hs : s < m.K) {k : Nat} (hk : k ≤ 4) (b : Int32) :
    ∃ (r : Int32), X L xs 19 (swp 15 94 0 4 #[33, 55, 62, 81, 87] (nI k)) [.ref 1, .int (nI k), .int (nI s), .int b, .ref (d.sa (s + 1))] [] (cl B d c) = some (cl B d c, some (.int r)) ∧ ∀ h, MB h → ∃ q, X L xs 109 (swp 20 208 0 3 #[32, 55, 89, 124] (nI k)) [.ref 8, .int (nI k), .int (nI s), .int b, .null] [] (ml h m) = some (ml h (m.sW q), some (.int r)) := by
  obtain ⟨jb, js, jt, jr, jp, jd, jv, ji, jf, jw, jh, jz, jl⟩ := id hj
  obtain ⟨p1, p2, p3, p4⟩ := id jb.1
  obtain ⟨h1, h2, h3, h4, h5, h6⟩ := hj.kin hs
  obtain ⟨t0, t1, t2, t4⟩ := hj.tgs hs
  have hw := jb.2.2.2.2.2
  have hK := hj.K
  have hs40 : s < 40 := by omega
  have hs31 : s < 2 ^ 31 := by omega
  have f14 : hasF (tg B (d.sa (s + 1))) 14 = true := by rw [h6]; exact (tgS_f h5).2.2.1
  have rl : m.kd s ≤ 3 → LZ T (m.rt s) := fun g => by rw [((jr s hs).1 g).1]; exact hj.rz hs
  have hh : c.he s ≤ 20000 := by
    by_cases g : m.kd s ≤ 3
    · rw [← hj.he hs g]; exact hj.zle (hj.rz hs)
    · obtain ⟨r1, r2, r3, r4, r5, r6, r7⟩ := hj.row hs (by omega)
      omega
  have nof : ∀ (h : AH), MB h → ∀ (m' : MS) (s' : Nat), m'.P = m.P → m'.rt = m.rt → s' < m.K → m.kd s' ≤ 3 → ∃ q, XM L xs 64 [.ref 8, .int (nI s')] (ml h m') = some (ml h (m'.sW q), some (.int (nI (c.he s')))) := by
    intro h hh m' s' eP er hs' hk'
    obtain ⟨q, hq⟩ := m_64 L xs hh m' (up := c.P.2.2) (T := T) (z := z) (by rw [eP]; exact hj.mw) jt.2.1 (show s' < 40 by omega) (by rw [er, ((jr s' hs').1 hk').1]; exact hj.rz hs')
    rw [er, ((jr s' hs').1 hk').1, hj.he hs' hk'] at hq
    exact ⟨q, hq⟩
  have : k = 0 ∨ k = 1 ∨ k = 2 ∨ k = 3 ∨ k = 4 := by omega
  rcases this with rfl | rfl | rfl | rfl | rfl
  · refine ⟨if m.kd s ≤ 1 then prT (c.he s) else -2, ?_, fun h hh' => ?_⟩
    · rw [show swp 15 94 0 4 #[33, 55, 62, 81, 87] (nI 0) = 48 from by decide +kernel, k_19_48, if_neg h3]
      have e41 := s_41 L xs (cl B d c) (c.he s) (by omega)
      rcases tgS_all h5 with ⟨q, g⟩ | ⟨q, g⟩ | ⟨q, g⟩ | ⟨q, g⟩
      · simp only [Hcl, gd_t, decide_true, Bool.and_self, HQ, HZ, h6.trans g, show ins 11 5 = some 1 from rfl, or_true, true_or, if_true, show ¬ (1 : Int32) = 0 from by decide, if_false]
        rw [k_19_56, if_pos (show m.kd s ≤ 1 by omega)]
        simp only [Hcl, gd_t, decide_true, Bool.and_self, HQ, HZ, f14, Rs d h2, cc_0_121_0, e41, bI_s, k_19_69]
      · simp only [Hcl, gd_t, decide_true, Bool.and_self, HQ, HZ, h6.trans g, show ins 11 7 = some 1 from rfl, or_true, true_or, if_true, show ¬ (1 : Int32) = 0 from by decide, if_false]
        rw [k_19_56, if_pos (show m.kd s ≤ 1 by omega)]
        simp only [Hcl, gd_t, decide_true, Bool.and_self, HQ, HZ, f14, Rs d h2, cc_0_121_0, e41, bI_s, k_19_69]
      · simp only [Hcl, gd_t, decide_true, Bool.and_self, HQ, HZ, h6.trans g, show ins 11 3 = some 0 from rfl, or_true, true_or, show ¬ (some 0 : Option Nat) = some 1 from by decide, if_true, if_false, k_19_67, k_19_69]
        rw [if_neg (show ¬ m.kd s ≤ 1 by omega)]
      · simp only [Hcl, gd_t, decide_true, Bool.and_self, HQ, HZ, h6.trans g, show ins 11 6 = some 0 from rfl, or_true, true_or, show ¬ (some 0 : Option Nat) = some 1 from by decide, if_true, if_false, k_19_67, k_19_69]
        rw [if_neg (show ¬ m.kd s ≤ 1 by omega)]
    · obtain ⟨b1, b2, b3, b4⟩ := id hh'
      rw [show swp 20 208 0 3 #[32, 55, 89, 124] (nI 0) = 52 from by decide +kernel, k_109_52]
      simp only [Hml, b1, b2, b3, b4, HF10, gd_t, decide_true, Bool.and_self, HQ, HZ, cc_9_181_10, m_60 L xs hh' m hs40 h5, bI_s]
      by_cases g : m.kd s ≤ 1
      · obtain ⟨q, hq⟩ := nof h hh' m s rfl rfl hs (by omega)
        refine ⟨q, ?_⟩
        have e71 := s_71 L xs (ml h (m.sW q)) 8 (c.he s) (by omega)
        rw [decide_eq_true g, if_neg (show ¬ bI1 true = 0 from by decide), if_pos g, k_109_60]
        simp only [Hml, b1, b2, b3, b4, HF10, gd_t, decide_true, Bool.and_self, HQ, HZ, cc_9_150_10, hq, bI_s, cc_9_153_10, e71, k_109_74]
      · refine ⟨(m.O, m.Pi, m.Z, m.F, m.la), ?_⟩
        rw [decide_eq_false g, if_pos (show bI1 false = 0 from rfl), if_neg g, k_109_72, k_109_74]
        rfl
  · have c1 := hj.c43 L xs hs b
    rcases st_of hK.1 b with hb | ⟨t, ht, rfl⟩
    · refine ⟨-1, ?_, fun h hh' => ⟨(m.O, m.Pi, m.Z, m.F, m.la), ?_⟩⟩
      · rw [show swp 15 94 0 4 #[33, 55, 62, 81, 87] (nI 1) = 70 from by decide +kernel, k_19_70]
        simp only [Hcl, p1, p2, p3, p4, HF1, HF2, gd_t, decide_true, Bool.and_self, HQ, HZ, cc_0_200_1, c1.1 hb, bI_s]
      · obtain ⟨b1, b2, b3, b4⟩ := id hh'
        rw [show swp 20 208 0 3 #[32, 55, 89, 124] (nI 1) = 75 from by decide +kernel, k_109_75]
        simp only [Hml, b1, b2, b3, b4, HF10, gd_t, decide_true, Bool.and_self, HQ, HZ, cc_9_226_10, m_87_f L xs hh' m hK.1 (Or.inr hb : (nI s < 0 ∨ nI m.K ≤ nI s) ∨ _), bI_s, show ¬ (-1 : Int32) = 0 from by decide, if_false, k_109_88, k_109_108]
        rfl
    · refine ⟨if m.kd s = 1 ∧ m.kd t = 1 ∧ s ≠ t then prT (c.he s + c.he t) else -2, ?_, fun h hh' => ?_⟩
      · rw [show swp 15 94 0 4 #[33, 55, 62, 81, 87] (nI 1) = 70 from by decide +kernel, k_19_70]
        simp only [Hcl, p1, p2, p3, p4, HF1, HF2, gd_t, decide_true, Bool.and_self, HQ, HZ, cc_0_200_1, c1.2 t ht rfl, bI_s]
      · obtain ⟨b1, b2, b3, b4⟩ := id hh'
        rw [show swp 20 208 0 3 #[32, 55, 89, 124] (nI 1) = 75 from by decide +kernel, k_109_75]
        simp only [Hml, b1, b2, b3, b4, HF10, gd_t, decide_true, Bool.and_self, HQ, HZ, cc_9_226_10, m_87 L xs hh' m hK.1 hs ht h5 (hj.kin ht).2.2.2.2.1, bI_s]
        by_cases g : m.kd s = 1 ∧ m.kd t = 1 ∧ s ≠ t
        · obtain ⟨q, hq⟩ := nof h hh' m s rfl rfl hs (by omega)
          obtain ⟨q2, hq2⟩ := nof h hh' (m.sW q) t rfl rfl ht (by omega)
          have hz2 := hj.zle (hj.rz ht)
          rw [hj.he ht (by omega)] at hz2
          have e71 := s_71 L xs (ml h ((m.sW q).sW q2)) 8 (c.he s + c.he t) (by omega)
          refine ⟨q2, ?_⟩
          rw [if_pos g, if_pos rfl, if_pos g, k_109_93]
          simp only [Hml, b1, b2, b3, b4, HF10, gd_t, decide_true, Bool.and_self, HQ, HZ, cc_9_150_10, hq, bI_s, hq2, cc_9_153_10, nI_add, e71, k_109_108]
          rfl
        · refine ⟨(m.O, m.Pi, m.Z, m.F, m.la), ?_⟩
          rw [if_neg g, if_neg (by decide), if_neg g, k_109_88, k_109_108]
          rfl
  · refine ⟨if m.kd s ≤ 1 then -2 else if 4 ≤ m.kd s then 3 else prH (c.he s) 1, ?_, fun h hh' => ?_⟩
    · rw [show swp 15 94 0 4 #[33, 55, 62, 81, 87] (nI 2) = 77 from by decide +kernel, k_19_77, if_neg h3]
      rcases tgS_all h5 with ⟨q, g⟩ | ⟨q, g⟩ | ⟨q, g⟩ | ⟨q, g⟩
      · simp only [Hcl, gd_t, decide_true, Bool.and_self, HQ, HZ, h6.trans g, show ins 11 5 = some 1 from rfl, or_true, true_or, if_true, show ¬ (1 : Int32) = 0 from by decide, if_false, k_19_85, k_19_95]
        rw [if_pos (show m.kd s ≤ 1 by omega)]
      · simp only [Hcl, gd_t, decide_true, Bool.and_self, HQ, HZ, h6.trans g, show ins 11 7 = some 1 from rfl, or_true, true_or, if_true, show ¬ (1 : Int32) = 0 from by decide, if_false, k_19_85, k_19_95]
        rw [if_pos (show m.kd s ≤ 1 by omega)]
      · simp only [Hcl, gd_t, decide_true, Bool.and_self, HQ, HZ, h6.trans g, show ins 11 3 = some 0 from rfl, or_true, true_or, show ¬ (some 0 : Option Nat) = some 1 from by decide, if_true, if_false]
        rw [k_19_90, if_neg (show ¬ m.kd s ≤ 1 by omega), if_neg (show ¬ 4 ≤ m.kd s by omega)]
        simp only [Hcl, gd_t, decide_true, Bool.and_self, HQ, HZ, dS hw h2, h6.trans g, cc_0_203_3, c122 L xs h2 (h6.trans g) c (by omega), bI_s, k_19_95]
      · simp only [Hcl, gd_t, decide_true, Bool.and_self, HQ, HZ, h6.trans g, show ins 11 6 = some 0 from rfl, or_true, true_or, show ¬ (some 0 : Option Nat) = some 1 from by decide, if_true, if_false]
        rw [k_19_90, if_neg (show ¬ m.kd s ≤ 1 by omega), if_pos (show 4 ≤ m.kd s by omega)]
        simp only [Hcl, gd_t, decide_true, Bool.and_self, HQ, HZ, dS hw h2, h6.trans g, cc_0_203_6, c148, bI_s, k_19_95]
    · obtain ⟨b1, b2, b3, b4⟩ := id hh'
      rw [show swp 20 208 0 3 #[32, 55, 89, 124] (nI 2) = 109 from by decide +kernel, k_109_109]
      simp only [Hml, b1, b2, b3, b4, HF10, gd_t, decide_true, Bool.and_self, HQ, HZ, cc_9_181_10, m_60 L xs hh' m hs40 h5, bI_s]
      by_cases g : m.kd s ≤ 1
      · refine ⟨(m.O, m.Pi, m.Z, m.F, m.la), ?_⟩
        rw [decide_eq_true g, if_neg (show ¬ bI1 true = 0 from by decide), if_pos g, k_109_117, k_109_143]
        rfl
      · rw [decide_eq_false g, if_pos (show bI1 false = 0 from rfl), if_neg g, k_109_122]
        simp only [Hml, b1, b2, b3, b4, HF10, gd_t, decide_true, Bool.and_self, HQ, HZ, cc_9_113_10, m_62 L xs hh' m hs40 h5, bI_s]
        by_cases g2 : 4 ≤ m.kd s
        · refine ⟨(m.O, m.Pi, m.Z, m.F, m.la), ?_⟩
          rw [decide_eq_true g2, if_neg (show ¬ bI1 true = 0 from by decide), if_pos g2, k_109_130, k_109_143]
          rfl
        · obtain ⟨q, hq⟩ := nof h hh' m s rfl rfl hs (by omega)
          have e91 := s_91 L xs (ml h (m.sW q)) (c.he s) 1 (by omega) (by decide)
          refine ⟨q, ?_⟩
          rw [decide_eq_false g2, if_pos (show bI1 false = 0 from rfl), if_neg g2, k_109_134]
          simp only [Hml, b1, b2, b3, b4, HF10, gd_t, decide_true, Bool.and_self, HQ, HZ, cc_9_150_10, hq, bI_s, cc_9_241_0, nI_1c, e91, k_109_143]
  · refine ⟨if m.kd s ≤ 1 then -2 else if c.he s = 0 then -3 else if m.kd s ≤ 3 then prH (z (c.P.1 (c.ro s))) (z (c.P.2.1 (c.ro s))) else 3, ?_, fun h hh' => ?_⟩
    · rw [show swp 15 94 0 4 #[33, 55, 62, 81, 87] (nI 3) = 96 from by decide +kernel, k_19_96]
      simp only [Hcl, p1, p2, p3, p4, HF1, HF2, gd_t, decide_true, Bool.and_self, HQ, HZ, cc_0_206_0, hj.c45 L xs hs, bI_s]
    · obtain ⟨b1, b2, b3, b4⟩ := id hh'
      rw [show swp 20 208 0 3 #[32, 55, 89, 124] (nI 3) = 144 from by decide +kernel, k_109_144]
      simp only [Hml, b1, b2, b3, b4, HF10, gd_t, decide_true, Bool.and_self, HQ, HZ, cc_9_181_10, m_60 L xs hh' m hs40 h5, bI_s]
      by_cases g : m.kd s ≤ 1
      · refine ⟨(m.O, m.Pi, m.Z, m.F, m.la), ?_⟩
        rw [decide_eq_true g, if_neg (show ¬ bI1 true = 0 from by decide), if_pos g, k_109_152]
        rfl
      · rw [decide_eq_false g, if_pos (show bI1 false = 0 from rfl), if_neg g, k_109_155]
        simp only [Hml, b1, b2, b3, b4, HF10, gd_t, decide_true, Bool.and_self, HQ, HZ, cc_9_113_10, m_62 L xs hh' m hs40 h5, bI_s]
        by_cases g2 : 4 ≤ m.kd s
        · obtain ⟨r1, r2, r3, r4, r5, r6, r7⟩ := hj.row hs g2
          refine ⟨(m.O, m.Pi, m.Z, m.F, m.la), ?_⟩
          rw [decide_eq_true g2, if_neg (show ¬ bI1 true = 0 from by decide), if_neg (show ¬ m.kd s ≤ 3 by omega), k_109_163, r5]
          simp only [Hml, b1, b2, b3, b4, HF10, gd_t, decide_true, Bool.and_self, HQ, HZ, inb_nI hs40 (by decide), nI_clamp hs31]
          by_cases e : m.nu s = 0
          · rw [if_pos e, e, if_neg (by rw [nI_0]; exact fun q => q rfl), k_109_172, k_109_178]
            rfl
          · rw [if_neg e, if_pos (nI_ne0 (by omega) (by omega)), k_109_177, k_109_178]
            rfl
        · have hk3 : m.kd s ≤ 3 := by omega
          have er := ((jr s hs).1 hk3).1
          rw [decide_eq_false g2, if_pos (show bI1 false = 0 from rfl), if_pos hk3, k_109_179]
          simp only [Hml, b1, b2, b3, b4, HF10, gd_t, decide_true, Bool.and_self, HQ, HZ, inb_nI hs40 (by decide), nI_clamp hs31, er]
          by_cases r0 : c.ro s = 0
          · refine ⟨(m.O, m.Pi, m.Z, m.F, m.la), ?_⟩
            rw [r0, en_0, if_neg (fun q => q rfl), k_109_189, k_109_227, if_pos (show c.he s = 0 by rw [← hj.he hs hk3, r0]; exact jt.1.2.1)]
            rfl
          · have tr : T (c.ro s) ≠ 0 := (hj.rz hs).resolve_left r0
            have rb := jt.2.1.2 _ tr
            have he0 : ¬ c.he s = 0 := by rw [← hj.he hs hk3]; have := jt.1.pos tr; omega
            have pc := jp.2 _ tr
            obtain ⟨q, hq⟩ := m_92 L xs hh' m hj.mw jt.2.1 (jt.1.lzl tr)
            obtain ⟨q2, hq2⟩ := m_92 L xs hh' (m.sW q) (up := c.P.2.2) hj.mw jt.2.1 (jt.1.lzr tr)
            have b1' := hj.zle (jt.1.lzl tr)
            have b2' := hj.zle (jt.1.lzr tr)
            have e91 := s_91 L xs (ml h ((m.sW q).sW q2)) (z (c.P.1 (c.ro s))) (z (c.P.2.1 (c.ro s))) (by omega) (by omega)
            refine ⟨q2, ?_⟩
            rw [if_pos (fun q => r0 ((en_m1 (by omega)).mp q)), if_neg he0, k_109_194]
            simp only [Hml, b1, b2, b3, b4, HF10, gd_t, decide_true, Bool.and_self, HQ, HZ, inb_nI hs40 (by decide), nI_clamp hs31, er, inb_en (show 1 ≤ c.ro s by omega) rb (by decide), cl_en (show 1 ≤ c.ro s by omega) (show c.ro s < 2 ^ 31 by omega), show c.ro s - 1 + 1 = c.ro s from by omega, pc.1, pc.2.1, cc_9_244_10, hq, bI_s, SWq, hq2, cc_9_241_0, e91, k_109_227]
            rfl
  · have c1 := hj.c44 L xs hs b
    rcases st_of hK.1 b with hb | ⟨t, ht, rfl⟩
    · refine ⟨-1, ?_, fun h hh' => ⟨(m.O, m.Pi, m.Z, m.F, m.la), ?_⟩⟩
      · rw [show swp 15 94 0 4 #[33, 55, 62, 81, 87] (nI 4) = 102 from by decide +kernel, k_19_102]
        simp only [Hcl, p1, p2, p3, p4, HF1, HF2, gd_t, decide_true, Bool.and_self, HQ, HZ, cc_0_209_1, c1.1 hb, bI_s]
      · obtain ⟨b1, b2, b3, b4⟩ := id hh'
        rw [show swp 20 208 0 3 #[32, 55, 89, 124] (nI 4) = 228 from by decide +kernel, k_109_228]
        simp only [Hml, b1, b2, b3, b4, HF10, gd_t, decide_true, Bool.and_self, HQ, HZ, cc_9_247_10, m_95_f L xs hh' m hK.1 (Or.inr hb : (nI s < 0 ∨ nI m.K ≤ nI s) ∨ _), bI_s, show ¬ (-1 : Int32) = 0 from by decide, if_false, k_109_241, k_109_259]
        rfl
    · refine ⟨if (m.kd s = 2 ∨ m.kd s = 3) ∧ m.kd s = m.kd t ∧ s ≠ t then prH (c.he s) (c.he t) else -2, ?_, fun h hh' => ?_⟩
      · rw [show swp 15 94 0 4 #[33, 55, 62, 81, 87] (nI 4) = 102 from by decide +kernel, k_19_102]
        simp only [Hcl, p1, p2, p3, p4, HF1, HF2, gd_t, decide_true, Bool.and_self, HQ, HZ, cc_0_209_1, c1.2 t ht rfl, bI_s]
      · obtain ⟨b1, b2, b3, b4⟩ := id hh'
        rw [show swp 20 208 0 3 #[32, 55, 89, 124] (nI 4) = 228 from by decide +kernel, k_109_228]
        simp only [Hml, b1, b2, b3, b4, HF10, gd_t, decide_true, Bool.and_self, HQ, HZ, cc_9_247_10, m_95 L xs hh' m hK.1 hs ht h5 (hj.kin ht).2.2.2.2.1, bI_s]
        by_cases g : (m.kd s = 2 ∨ m.kd s = 3) ∧ m.kd s = m.kd t ∧ s ≠ t
        · obtain ⟨q, hq⟩ := nof h hh' m s rfl rfl hs (by omega)
          obtain ⟨q2, hq2⟩ := nof h hh' (m.sW q) t rfl rfl ht (by omega)
          have hz2 := hj.zle (hj.rz ht)
          rw [hj.he ht (by omega)] at hz2
          have e91 := s_91 L xs (ml h ((m.sW q).sW q2)) (c.he s) (c.he t) (by omega) (by omega)
          refine ⟨q2, ?_⟩
          rw [if_pos g, if_pos rfl, if_pos g, k_109_246]
          simp only [Hml, b1, b2, b3, b4, HF10, gd_t, decide_true, Bool.and_self, HQ, HZ, cc_9_150_10, hq, bI_s, hq2, cc_9_241_0, e91, k_109_259]
          rfl
        · refine ⟨(m.O, m.Pi, m.Z, m.F, m.la), ?_⟩
          rw [if_neg g, if_neg (by decide), if_neg g, k_109_241, k_109_259]
          rfl
theorem q_price {i : Nat} {B : AH} {m : MS} {c : CS} {d : DS} (hI : Inv i B m c d) (w a b : Int32) : Ans L xs i B m c d 19 109 [.int w, .int a, .int b] := by
  obtain ⟨e, ja, jq, T, z, V, R, FN, FI, ow, hj⟩ := id hI
  obtain ⟨p1, p2, p3, p4⟩ := id hj.1.1
  have c4 : (4 : Int32) = nI 4 := by decide +kernel
  have none : ∀ (h : AH), MB h → ((w.toInt < 0 ∨ (4 : Int) < w.toInt) ∨ (a < 0 ∨ nI m.K ≤ a)) → XM L xs 109 [.ref 8, .int w, .int a, .int b] (ml h m) = some (ml h m, some (.int (-1))) := by
    intro h hh g
    obtain ⟨b1, b2, b3, b4⟩ := id hh
    rw [en_109, k_109_0]
    by_cases w0 : w < 0
    · rw [if_pos w0, k_109_17]
    · rw [if_neg w0, k_109_4]
      by_cases w4 : (4 : Int32) < w
      · rw [if_pos w4, k_109_17]
      · rw [if_neg w4, k_109_9]
        have ha : a < 0 ∨ nI m.K ≤ a := by
          rcases g with (g | g) | g
          · exact absurd (Int32.lt_iff_toInt_lt.mpr (by rw [Int32.toInt_zero]; exact g)) w0
          · exact absurd (Int32.lt_iff_toInt_lt.mpr (by rw [show (4 : Int32).toInt = 4 from rfl]; exact g)) w4
          · exact g
        simp only [Hml, b1, b2, b3, b4, HF10, gd_t, decide_true, Bool.and_self, HQ, HZ, cc_9_175_10, m_63_f L xs hh m ha, bI_s, not_true, if_false, k_109_17]
  rcases st_of hj.K.1 a with ha | ⟨s, hs, rfl⟩
  · refine Ans.of L xs (B' := B) (c' := c) (d' := d) (r := .int (-1)) ?_ e hj.1.2.1 (fun h hh => ⟨m, none h hh (Or.inr ha), hI.stay⟩)
    rw [en_19, k_19_0]
    simp only [Hcl, p1, p2, p3, p4, HF1, HF2, gd_t, decide_true, Bool.and_self, HQ, HZ, cc_0_30_1, hj.c25f L xs ha, bR_s, if_true, k_19_12]
  · have hc0 : XM L xs 19 [.ref 1, .int w, .int (nI s), .int b] (cl B d c) = X L xs 19 (swp 15 94 0 4 #[33, 55, 62, 81, 87] w) [.ref 1, .int w, .int (nI s), .int b, .ref (d.sa (s + 1))] [] (cl B d c) := by
      rw [en_19, k_19_0]
      simp only [Hcl, p1, p2, p3, p4, HF1, HF2, gd_t, decide_true, Bool.and_self, HQ, HZ, cc_0_30_1, hj.c25 L xs hs, bR_s, (hj.kin hs).2.2.1, if_false, k_19_14]
    rcases sw_c w (show 4 < 2 ^ 30 by decide) with ⟨k, hk, rfl⟩ | g
    · obtain ⟨r, hc, hm⟩ := q_price_c L xs hj hs hk b
      refine Ans.of L xs (B' := B) (c' := c) (d' := d) (r := .int r) (hc0.trans hc) e hj.1.2.1 (fun h hh => ?_)
      obtain ⟨q, hq⟩ := hm h hh
      obtain ⟨b1, b2, b3, b4⟩ := id hh
      refine ⟨m.sW q, ?_, hI.sW q⟩
      rw [en_109, k_109_0, if_neg (nI_pos (by omega)), k_109_4, c4, if_neg (nI_nlt hk (by decide)), k_109_9]
      simp only [Hml, b1, b2, b3, b4, HF10, gd_t, decide_true, Bool.and_self, HQ, HZ, cc_9_175_10, m_63_t L xs hh m hs hj.K.1, bI_s, show ¬ (1 : Int32) = 0 from by decide, not_false_eq_true, if_true, k_109_19, hq]
    · have g : w.toInt < 0 ∨ (4 : Int) < w.toInt := g
      refine Ans.of L xs (B' := B) (c' := c) (d' := d) (r := .int (-1)) ?_ e hj.1.2.1 (fun h hh => ⟨m, none h hh (Or.inl g), hI.stay⟩)
      rw [hc0, swp_d g, show tgt 15 94 = 109 from rfl, k_19_109]
end Prq
