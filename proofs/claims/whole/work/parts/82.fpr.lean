-- find, below, above
theorem JM.of {m m' : MS} {c c' : CS} {s : Nat} (ja : JA m c) (hN : m.N < 20000) (hs : s < m.K) (e1 : c'.pu = c.pu) (e2 : c'.st = u1 c.st s (c.st s + nI m'.sp)) (e3 : m'.pu = m.pu) (e4 : m'.st = m.st) (e5 : m'.K = m.K) (hsp : m'.sp ≤ 100000) (f : c'.fk = m'.fk ∧ c'.fv = m'.fv ∧ c'.E = m'.E ∧ m'.se ≤ m.N + 1 ∧ c'.cn ≤ m.N + 1) (l1 : c'.N = c.N) (l2 : m'.N = m.N) (l3 : c'.rO = c.rO) (l4 : c'.rP = c.rP) (l5 : c'.rT = c.rT) (l6 : c'.rQ = c.rQ) (l7 : m'.rO = m.rO) (l8 : m'.rP = m.rP) (l9 : m'.rT = m.rT) (l0 : m'.rQ = m.rQ) : JM m' c' s := by
  obtain ⟨a1, -, ⟨n1, n2, n3, n4, n5, n6⟩, t, ht⟩ := ja
  refine ⟨fun r hr => ⟨?_, fun q => ?_⟩, ⟨?_, hsp⟩, ?_, ⟨?_, ?_, ?_, ?_, ?_, ?_⟩, t, ?_⟩
  · rw [e1, e3]; exact (a1 r (by rw [← e5]; exact hr)).1
  · rw [e2, e4, u1_o _ _ q]; exact (a1 r (by rw [← e5]; exact hr)).2
  · rw [e2, e4, u1_s, (a1 s hs).2]
  · rw [l2]; exact f
  · rw [l1, l2]; exact n1
  · rw [l2]; exact hN
  · rw [l3, l7]; exact n3
  · rw [l4, l8]; exact n4
  · rw [l5, l9]; exact n5
  · rw [l6, l0]; exact n6
  · rw [l2, l9]; exact ht
theorem JJ.fkv {m : MS} {c : CS} {d : DS} {B : AH} {T z : Nat → Nat} {V R : Nat → List Nat} {FN FI : List Nat} {ow : Nat → Nat} (hj : JJ m c d B T z V R FN FI ow) (a x : Int64) (b y : Int32) : JJ ((m.sfk a).sfv b) ((c.sfk x).sfv y) d B T z V R FN FI ow := by
  obtain ⟨jb, js, jt, jr, jp, jd, jv, ji, jf, jw, jh, jz, jl⟩ := id hj
  exact ⟨jb, js.cg rfl rfl rfl rfl rfl, jt.cg rfl rfl rfl, jr.cg rfl rfl rfl rfl rfl rfl, jp.cg rfl rfl rfl rfl rfl, jd, jv.cg rfl rfl rfl rfl rfl rfl rfl rfl rfl, ji.cg rfl rfl rfl rfl, jf.cg rfl rfl rfl, jw.cg rfl rfl rfl rfl rfl rfl rfl rfl rfl, jh.cg rfl rfl rfl rfl rfl, jz.cg rfl rfl rfl rfl rfl rfl rfl rfl, jl.cg rfl rfl rfl rfl rfl rfl rfl rfl⟩
theorem JJ.ssp {m : MS} {c : CS} {d : DS} {B : AH} {T z : Nat → Nat} {V R : Nat → List Nat} {FN FI : List Nat} {ow : Nat → Nat} (hj : JJ m c d B T z V R FN FI ow) (a : Nat) : JJ (m.ssp a) c d B T z V R FN FI ow := by
  obtain ⟨jb, js, jt, jr, jp, jd, jv, ji, jf, jw, jh, jz, jl⟩ := id hj
  exact ⟨jb, js.cg rfl rfl rfl rfl rfl, jt.cg rfl rfl rfl, jr.cg rfl rfl rfl rfl rfl rfl, jp.cg rfl rfl rfl rfl rfl, jd, jv.cg rfl rfl rfl rfl rfl rfl rfl rfl rfl, ji.cg rfl rfl rfl rfl, jf.cg rfl rfl rfl, jw.cg rfl rfl rfl rfl rfl rfl rfl rfl rfl, jh.cg rfl rfl rfl rfl rfl, jz.cg rfl rfl rfl rfl rfl rfl rfl rfl, jl.cg rfl rfl rfl rfl rfl rfl rfl rfl⟩
theorem JJ.sbs {m : MS} {c : CS} {d : DS} {B : AH} {T z : Nat → Nat} {V R : Nat → List Nat} {FN FI : List Nat} {ow : Nat → Nat} (hj : JJ m c d B T z V R FN FI ow) (a : Nat) : JJ (m.sbs a) c d B T z V R FN FI ow := by
  obtain ⟨jb, js, jt, jr, jp, jd, jv, ji, jf, jw, jh, jz, jl⟩ := id hj
  exact ⟨jb, js.cg rfl rfl rfl rfl rfl, jt.cg rfl rfl rfl, jr.cg rfl rfl rfl rfl rfl rfl, jp.cg rfl rfl rfl rfl rfl, jd, jv.cg rfl rfl rfl rfl rfl rfl rfl rfl rfl, ji.cg rfl rfl rfl rfl, jf.cg rfl rfl rfl, jw.cg rfl rfl rfl rfl rfl rfl rfl rfl rfl, jh.cg rfl rfl rfl rfl rfl, jz.cg rfl rfl rfl rfl rfl rfl rfl rfl, jl.cg rfl rfl rfl rfl rfl rfl rfl rfl⟩
theorem JJ.sst {m : MS} {c : CS} {d : DS} {B : AH} {T z : Nat → Nat} {V R : Nat → List Nat} {FN FI : List Nat} {ow : Nat → Nat} (hj : JJ m c d B T z V R FN FI ow) (σ : Nat → Int32) : JJ m (c.sst σ) d B T z V R FN FI ow := by
  obtain ⟨jb, js, jt, jr, jp, jd, jv, ji, jf, jw, jh, jz, jl⟩ := id hj
  exact ⟨jb, js.cg rfl rfl rfl rfl rfl, jt.cg rfl rfl rfl, jr.cg rfl rfl rfl rfl rfl rfl, jp.cg rfl rfl rfl rfl rfl, jd, jv.cg rfl rfl rfl rfl rfl rfl rfl rfl rfl, ji.cg rfl rfl rfl rfl, jf.cg rfl rfl rfl, jw.cg rfl rfl rfl rfl rfl rfl rfl rfl rfl, jh.cg rfl rfl rfl rfl rfl, jz.cg rfl rfl rfl rfl rfl rfl rfl rfl, jl.cg rfl rfl rfl rfl rfl rfl rfl rfl⟩
theorem cLz_fkv (kd : Nat) (c : CS) (s : Nat) (x : Int64) (y : Int32) : cLz kd ((c.sfk x).sfv y) s = ((cLz kd c s).sfk x).sfv y := by
  unfold cLz
  by_cases q : kd = 1
  · rw [if_pos q, if_pos q]; rfl
  · rw [if_neg q, if_neg q]
theorem cStl_fkv (kd : Nat) (c : CS) (s n : Nat) (T : Nat → Nat) (x : Int64) (y : Int32) : cStl kd ((c.sfk x).sfv y) s n T = ((cStl kd c s n T).sfk x).sfv y := by
  unfold cStl
  by_cases q : kd = 1
  · rw [if_pos q, if_pos q]
    by_cases n0 : n = 0
    · rw [if_pos n0, if_pos n0]; rfl
    · rw [if_neg n0, if_neg n0]; rfl
  · rw [if_neg q, if_neg q]
theorem HcStl (kd : Nat) (c : CS) (s n : Nat) (T : Nat → Nat) : (cStl kd c s n T).ck = c.ck ∧ (cStl kd c s n T).nv = c.nv ∧ (cStl kd c s n T).f1 = c.f1 ∧ (cStl kd c s n T).vn = c.vn ∧ (cStl kd c s n T).he = c.he ∧ (cStl kd c s n T).vs = c.vs ∧ (cStl kd c s n T).E = c.E ∧ (cStl kd c s n T).cn = c.cn := by
  unfold cStl
  by_cases q : kd = 1
  · rw [if_pos q]
    by_cases n0 : n = 0
    · rw [if_pos n0]; exact ⟨rfl, rfl, rfl, rfl, rfl, rfl, rfl, rfl⟩
    · rw [if_neg n0]; exact ⟨rfl, rfl, rfl, rfl, rfl, rfl, rfl, rfl⟩
  · rw [if_neg q]; exact ⟨rfl, rfl, rfl, rfl, rfl, rfl, rfl, rfl⟩
theorem HmTrn (m : MS) (s n : Nat) : (mTrn m s n).ky = m.ky ∧ (mTrn m s n).fV = m.fV ∧ (mTrn m s n).lV = m.lV ∧ (mTrn m s n).nx = m.nx ∧ (mTrn m s n).it = m.it ∧ (mTrn m s n).kd = m.kd ∧ (mTrn m s n).K = m.K ∧ (mTrn m s n).N = m.N ∧ (mTrn m s n).st = m.st ∧ (mTrn m s n).nu = m.nu ∧ (mTrn m s n).pl = m.pl ∧ (mTrn m s n).E = m.E := by
  unfold mTrn
  split
  · exact ⟨rfl, rfl, rfl, rfl, rfl, rfl, rfl, rfl, rfl, rfl, rfl, rfl⟩
  · exact ⟨rfl, rfl, rfl, rfl, rfl, rfl, rfl, rfl, rfl, rfl, rfl, rfl⟩
theorem mTrn_sW (m : MS) (q : SCT) (s n : Nat) : mTrn (m.sW q) s n = (mTrn m s n).sW q := by
  unfold mTrn
  show (if m.kd s = 1 ∧ n ≠ 0 then _ else _) = _
  split
  · rfl
  · rfl
theorem rwP_trn (m : MS) (s n : Nat) : rwP (mTrn m s n) = rwP m := by
  unfold rwP
  rw [(HmTrn m s n).2.2.2.2.2.1, (HmTrn m s n).2.2.2.2.2.2.1, (HmTrn m s n).2.2.2.2.2.2.2.2.2.1, (HmTrn m s n).2.2.2.2.2.2.2.2.2.2.1]
theorem JJ.f1 {m : MS} {c : CS} {d : DS} {B : AH} {T z : Nat → Nat} {V R : Nat → List Nat} {FN FI : List Nat} {ow : Nat → Nat} (hj : JJ m c d B T z V R FN FI ow) {n : Nat} (hn : T n ≠ 0) : c.f1 n = m.fV n ∧ m.fV n ≠ 0 ∧ m.fV n ≤ 20000 ∧ d.iid (d.vh (m.fV n)) = m.fV n ∧ c.vn (m.fV n) = (m.it (m.fV n)).toInt32 ∧ ow (m.fV n) = n ∧ (∀ i, i ∈ V n → i ≤ 20002) ∧ c.vx (m.fV n) = m.nx (m.fV n) := by
  obtain ⟨jb, js, jt, jr, jp, jd, jv, ji, jf, jw, jh, jz, jl⟩ := id hj
  obtain ⟨v1, v2, v3, v4, v5, v6, v7, v8⟩ := jv n hn
  have n0 := jt.1.n0 hn
  have bd : ∀ i, i ∈ V n → i ≤ 20000 := fun i hi => by
    have := (ji.2.2.2.2.2.1 i (by rw [(v8 i hi).1]; exact n0)).2
    have := ji.2.2.2.2.1
    omega
  cases hV : V n with
  | nil => exact absurd hV v1
  | cons x t =>
    rw [hV] at v2
    have hx : x ∈ V n := by rw [hV]; exact List.mem_cons_self ..
    have e := v8 x hx
    rw [v2.1]
    refine ⟨by rw [v3, v2.1], v2.2.1, bd x hx, (jd.2 x v2.2.1).mpr ⟨by rw [e.1]; exact n0, by rw [e.1]; exact jt.2.1.2 n hn⟩, e.2.1, e.1, fun i hi => ?_, e.2.2⟩
    rw [← hV] at hi
    have := bd i hi
    omega
section Fnd
variable (L : Nat) (xs : Nat → Int32)
theorem pre_5 {B : AH} {m : MS} {c : CS} {d : DS} {T z : Nat → Nat} {V R : Nat → List Nat} {FN FI : List Nat} {ow : Nat → Nat} (ja : JA m c) (hj : JJ m c d B T z V R FN FI ow) (a : Int32) (k : Int64) :
    ((a < 0 ∨ nI m.K ≤ a) → XM L xs 5 [.ref 1, .int a, .long k] (cl B d c) = some (cl B d c, some (.int (-1))) ∧ ∀ h, MB h → XM L xs 76 [.ref 8, .int a, .long k] (ml h m) = some (ml h m, some (.int (-1)))) ∧
    (∀ s, s < m.K → a = nI s → XM L xs 5 [.ref 1, .int a, .long k] (cl B d c) = (if m.kd s ≤ 1 then (if m.N = 20000 then some (cl B d c, some (.int (-5))) else X L xs 5 31 [.ref 1, .int a, .long k, .null, .ref (d.sa (s + 1)), .null, .null, .null] [] (cl B d c)) else some (cl B d c, some (.int (-2)))) ∧ ∀ h, MB h → XM L xs 76 [.ref 8, .int a, .long k] (ml h m) = (if m.kd s ≤ 1 then (if m.N = 20000 then some (ml h m, some (.int (-5))) else X L xs 76 34 [.ref 8, .int a, .long k, .null, .null, .null, .null, .null] [] (ml h m)) else some (ml h m, some (.int (-2))))) := by
  obtain ⟨jb, js, -⟩ := id hj
  obtain ⟨p1, p2, p3, p4⟩ := id jb.1
  obtain ⟨n1, n2, n3, n4, n5, n6⟩ := ja.2.2.1
  have hK := hj.K
  have c20 : (20000 : Int32) = nI 20000 := by decide +kernel
  constructor
  · intro ha
    constructor
    · rw [en_5, k_5_0]
      simp only [Hcl, p1, p2, p3, p4, HF1, HF2, gd_t, decide_true, Bool.and_self, HQ, HZ, cc_0_43_1, hj.c26f L xs ha, bR_s, if_true]
      rw [k_5_12]
      simp only [Hcl, p1, p2, p3, p4, HF1, HF2, gd_t, decide_true, Bool.and_self, HQ, HZ, cc_0_47_1, hj.c30f L xs ha, bI_s]
    · intro h hh
      obtain ⟨b1, b2, b3, b4⟩ := id hh
      rw [en_76, k_76_0]
      simp only [Hml, b1, b2, b3, b4, HF10, gd_t, decide_true, Bool.and_self, HQ, HZ, cc_9_175_10, m_63_f L xs hh m ha, bI_s, not_true, if_false, k_76_8]
  · rintro s hs rfl
    obtain ⟨h1, h2, h3, h4, h5, h6⟩ := hj.kin hs
    constructor
    · rw [en_5, k_5_0]
      simp only [Hcl, p1, p2, p3, p4, HF1, HF2, gd_t, decide_true, Bool.and_self, HQ, HZ, cc_0_43_1, hj.c26 L xs hs, bR_s]
      by_cases g : m.kd s ≤ 1
      · rw [if_pos g, if_neg h3, if_pos g, k_5_18]
        simp only [Hcl, p1, p2, p3, p4, HF1, HF2, gd_t, decide_true, Bool.and_self, HQ, HZ, cc_0_51_2, c116 L xs jb.1 d c (by omega), bI_s, n1]
        by_cases g2 : m.N = 20000
        · rw [if_pos g2, decide_eq_true g2, if_neg (show ¬ bI1 true = 0 from by decide), k_5_28]
        · rw [if_neg g2, decide_eq_false g2, if_pos (show bI1 false = 0 from rfl)]
          try rfl
      · rw [if_neg g, if_pos rfl, if_neg g, k_5_12]
        simp only [Hcl, p1, p2, p3, p4, HF1, HF2, gd_t, decide_true, Bool.and_self, HQ, HZ, cc_0_47_1, hj.c30 L xs hs, bI_s]
    · intro h hh
      obtain ⟨b1, b2, b3, b4⟩ := id hh
      rw [en_76, k_76_0]
      simp only [Hml, b1, b2, b3, b4, HF10, gd_t, decide_true, Bool.and_self, HQ, HZ, cc_9_175_10, m_63_t L xs hh m hs hK.1, bI_s, show ¬ (1 : Int32) = 0 from by decide, not_false_eq_true, if_true]
      rw [k_76_10]
      simp only [Hml, b1, b2, b3, b4, HF10, gd_t, decide_true, Bool.and_self, HQ, HZ, cc_9_181_10, m_60 L xs hh m (show s < 40 by omega) h5, bI_s]
      by_cases g : m.kd s ≤ 1
      · rw [decide_eq_true g, if_pos (show ¬ bI1 true = 0 from by decide), if_pos g, k_76_21]
        simp only [Hml, b1, b2, b3, b4, HF10, gd_t, decide_true, Bool.and_self, HQ, HZ, c20, nI_eq (show m.N < 2 ^ 31 by omega) (show 20000 < 2 ^ 31 by decide)]
        by_cases g2 : m.N = 20000
        · rw [if_neg (fun q => q g2), if_pos g2, k_76_31]
        · rw [if_pos g2, if_neg g2]
      · rw [decide_eq_false g, if_neg (show ¬ ¬ bI1 false = 0 from by decide), if_neg g, k_76_18]
theorem pre_6 {B : AH} {m : MS} {c : CS} {d : DS} {T z : Nat → Nat} {V R : Nat → List Nat} {FN FI : List Nat} {ow : Nat → Nat} (ja : JA m c) (hj : JJ m c d B T z V R FN FI ow) (a : Int32) (k : Int64) :
    ((a < 0 ∨ nI m.K ≤ a) → XM L xs 6 [.ref 1, .int a, .long k] (cl B d c) = some (cl B d c, some (.int (-1))) ∧ ∀ h, MB h → XM L xs 77 [.ref 8, .int a, .long k] (ml h m) = some (ml h m, some (.int (-1)))) ∧
    (∀ s, s < m.K → a = nI s → XM L xs 6 [.ref 1, .int a, .long k] (cl B d c) = (if m.kd s ≤ 1 then (if m.N = 20000 then some (cl B d c, some (.int (-5))) else X L xs 6 31 [.ref 1, .int a, .long k, .null, .ref (d.sa (s + 1)), .null, .null, .null] [] (cl B d c)) else some (cl B d c, some (.int (-2)))) ∧ ∀ h, MB h → XM L xs 77 [.ref 8, .int a, .long k] (ml h m) = (if m.kd s ≤ 1 then (if m.N = 20000 then some (ml h m, some (.int (-5))) else X L xs 77 34 [.ref 8, .int a, .long k, .null, .null, .null, .null, .null] [] (ml h m)) else some (ml h m, some (.int (-2))))) := by
  obtain ⟨jb, js, -⟩ := id hj
  obtain ⟨p1, p2, p3, p4⟩ := id jb.1
  obtain ⟨n1, n2, n3, n4, n5, n6⟩ := ja.2.2.1
  have hK := hj.K
  have c20 : (20000 : Int32) = nI 20000 := by decide +kernel
  constructor
  · intro ha
    constructor
    · rw [en_6, k_6_0]
      simp only [Hcl, p1, p2, p3, p4, HF1, HF2, gd_t, decide_true, Bool.and_self, HQ, HZ, cc_0_43_1, hj.c26f L xs ha, bR_s, if_true]
      rw [k_6_12]
      simp only [Hcl, p1, p2, p3, p4, HF1, HF2, gd_t, decide_true, Bool.and_self, HQ, HZ, cc_0_47_1, hj.c30f L xs ha, bI_s]
    · intro h hh
      obtain ⟨b1, b2, b3, b4⟩ := id hh
      rw [en_77, k_77_0]
      simp only [Hml, b1, b2, b3, b4, HF10, gd_t, decide_true, Bool.and_self, HQ, HZ, cc_9_175_10, m_63_f L xs hh m ha, bI_s, not_true, if_false, k_77_8]
  · rintro s hs rfl
    obtain ⟨h1, h2, h3, h4, h5, h6⟩ := hj.kin hs
    constructor
    · rw [en_6, k_6_0]
      simp only [Hcl, p1, p2, p3, p4, HF1, HF2, gd_t, decide_true, Bool.and_self, HQ, HZ, cc_0_43_1, hj.c26 L xs hs, bR_s]
      by_cases g : m.kd s ≤ 1
      · rw [if_pos g, if_neg h3, if_pos g, k_6_18]
        simp only [Hcl, p1, p2, p3, p4, HF1, HF2, gd_t, decide_true, Bool.and_self, HQ, HZ, cc_0_51_2, c116 L xs jb.1 d c (by omega), bI_s, n1]
        by_cases g2 : m.N = 20000
        · rw [if_pos g2, decide_eq_true g2, if_neg (show ¬ bI1 true = 0 from by decide), k_6_28]
        · rw [if_neg g2, decide_eq_false g2, if_pos (show bI1 false = 0 from rfl)]
          try rfl
      · rw [if_neg g, if_pos rfl, if_neg g, k_6_12]
        simp only [Hcl, p1, p2, p3, p4, HF1, HF2, gd_t, decide_true, Bool.and_self, HQ, HZ, cc_0_47_1, hj.c30 L xs hs, bI_s]
    · intro h hh
      obtain ⟨b1, b2, b3, b4⟩ := id hh
      rw [en_77, k_77_0]
      simp only [Hml, b1, b2, b3, b4, HF10, gd_t, decide_true, Bool.and_self, HQ, HZ, cc_9_175_10, m_63_t L xs hh m hs hK.1, bI_s, show ¬ (1 : Int32) = 0 from by decide, not_false_eq_true, if_true]
      rw [k_77_10]
      simp only [Hml, b1, b2, b3, b4, HF10, gd_t, decide_true, Bool.and_self, HQ, HZ, cc_9_181_10, m_60 L xs hh m (show s < 40 by omega) h5, bI_s]
      by_cases g : m.kd s ≤ 1
      · rw [decide_eq_true g, if_pos (show ¬ bI1 true = 0 from by decide), if_pos g, k_77_21]
        simp only [Hml, b1, b2, b3, b4, HF10, gd_t, decide_true, Bool.and_self, HQ, HZ, c20, nI_eq (show m.N < 2 ^ 31 by omega) (show 20000 < 2 ^ 31 by decide)]
        by_cases g2 : m.N = 20000
        · rw [if_neg (fun q => q g2), if_pos g2, k_77_31]
        · rw [if_pos g2, if_neg g2]
      · rw [decide_eq_false g, if_neg (show ¬ ¬ bI1 false = 0 from by decide), if_neg g, k_77_18]
theorem pre_36 {B : AH} {m : MS} {c : CS} {d : DS} {T z : Nat → Nat} {V R : Nat → List Nat} {FN FI : List Nat} {ow : Nat → Nat} (ja : JA m c) (hj : JJ m c d B T z V R FN FI ow) (a : Int32) (k : Int64) (e : Int32) :
    ((a < 0 ∨ nI m.K ≤ a) → XM L xs 36 [.ref 1, .int a, .long k, .int e] (cl B d c) = some (cl B d c, some (.int (-1))) ∧ ∀ h, MB h → XM L xs 83 [.ref 8, .int a, .long k, .int e] (ml h m) = some (ml h m, some (.int (-1)))) ∧
    (∀ s, s < m.K → a = nI s → XM L xs 36 [.ref 1, .int a, .long k, .int e] (cl B d c) = (if m.kd s ≤ 1 then (if m.N = 20000 then some (cl B d c, some (.int (-5))) else X L xs 36 31 [.ref 1, .int a, .long k, .null, .int e, .ref (d.sa (s + 1)), .null, .null, .null] [] (cl B d c)) else some (cl B d c, some (.int (-2)))) ∧ ∀ h, MB h → XM L xs 83 [.ref 8, .int a, .long k, .int e] (ml h m) = (if m.kd s ≤ 1 then (if m.N = 20000 then some (ml h m, some (.int (-5))) else X L xs 83 34 [.ref 8, .int a, .long k, .null, .int e, .null, .null, .null] [] (ml h m)) else some (ml h m, some (.int (-2))))) := by
  obtain ⟨jb, js, -⟩ := id hj
  obtain ⟨p1, p2, p3, p4⟩ := id jb.1
  obtain ⟨n1, n2, n3, n4, n5, n6⟩ := ja.2.2.1
  have hK := hj.K
  have c20 : (20000 : Int32) = nI 20000 := by decide +kernel
  constructor
  · intro ha
    constructor
    · rw [en_36, k_36_0]
      simp only [Hcl, p1, p2, p3, p4, HF1, HF2, gd_t, decide_true, Bool.and_self, HQ, HZ, cc_0_43_1, hj.c26f L xs ha, bR_s, if_true]
      rw [k_36_12]
      simp only [Hcl, p1, p2, p3, p4, HF1, HF2, gd_t, decide_true, Bool.and_self, HQ, HZ, cc_0_47_1, hj.c30f L xs ha, bI_s]
    · intro h hh
      obtain ⟨b1, b2, b3, b4⟩ := id hh
      rw [en_83, k_83_0]
      simp only [Hml, b1, b2, b3, b4, HF10, gd_t, decide_true, Bool.and_self, HQ, HZ, cc_9_175_10, m_63_f L xs hh m ha, bI_s, not_true, if_false, k_83_8]
  · rintro s hs rfl
    obtain ⟨h1, h2, h3, h4, h5, h6⟩ := hj.kin hs
    constructor
    · rw [en_36, k_36_0]
      simp only [Hcl, p1, p2, p3, p4, HF1, HF2, gd_t, decide_true, Bool.and_self, HQ, HZ, cc_0_43_1, hj.c26 L xs hs, bR_s]
      by_cases g : m.kd s ≤ 1
      · rw [if_pos g, if_neg h3, if_pos g, k_36_18]
        simp only [Hcl, p1, p2, p3, p4, HF1, HF2, gd_t, decide_true, Bool.and_self, HQ, HZ, cc_0_51_2, c116 L xs jb.1 d c (by omega), bI_s, n1]
        by_cases g2 : m.N = 20000
        · rw [if_pos g2, decide_eq_true g2, if_neg (show ¬ bI1 true = 0 from by decide), k_36_28]
        · rw [if_neg g2, decide_eq_false g2, if_pos (show bI1 false = 0 from rfl)]
          try rfl
      · rw [if_neg g, if_pos rfl, if_neg g, k_36_12]
        simp only [Hcl, p1, p2, p3, p4, HF1, HF2, gd_t, decide_true, Bool.and_self, HQ, HZ, cc_0_47_1, hj.c30 L xs hs, bI_s]
    · intro h hh
      obtain ⟨b1, b2, b3, b4⟩ := id hh
      rw [en_83, k_83_0]
      simp only [Hml, b1, b2, b3, b4, HF10, gd_t, decide_true, Bool.and_self, HQ, HZ, cc_9_175_10, m_63_t L xs hh m hs hK.1, bI_s, show ¬ (1 : Int32) = 0 from by decide, not_false_eq_true, if_true]
      rw [k_83_10]
      simp only [Hml, b1, b2, b3, b4, HF10, gd_t, decide_true, Bool.and_self, HQ, HZ, cc_9_181_10, m_60 L xs hh m (show s < 40 by omega) h5, bI_s]
      by_cases g : m.kd s ≤ 1
      · rw [decide_eq_true g, if_pos (show ¬ bI1 true = 0 from by decide), if_pos g, k_83_21]
        simp only [Hml, b1, b2, b3, b4, HF10, gd_t, decide_true, Bool.and_self, HQ, HZ, c20, nI_eq (show m.N < 2 ^ 31 by omega) (show 20000 < 2 ^ 31 by decide)]
        by_cases g2 : m.N = 20000
        · rw [if_neg (fun q => q g2), if_pos g2, k_83_31]
        · rw [if_pos g2, if_neg g2]
      · rw [decide_eq_false g, if_neg (show ¬ ¬ bI1 false = 0 from by decide), if_neg g, k_83_18]
end Fnd
section Clq
variable (L : Nat) (xs : Nat → Int32) {m : MS} {c : CS} {d : DS} {B : AH} {T z : Nat → Nat} {V R : Nat → List Nat} {FN FI : List Nat} {ow : Nat → Nat}
theorem JJ.sWq (hj : JJ m c d B T z V R FN FI ow) (q : SCT) : JJ (m.sW q) c d B T z V R FN FI ow := by
  obtain ⟨jb, js, jt, jr, jp, jd, jv, ji, jf, jw, jh, jz, jl⟩ := id hj
  exact ⟨jb, js.cg rfl rfl rfl rfl rfl, jt.cg rfl rfl rfl, jr.cg rfl rfl rfl rfl rfl rfl, jp.cg rfl rfl rfl rfl rfl, jd, jv.cg rfl rfl rfl rfl rfl rfl rfl rfl rfl, ji.cg rfl rfl rfl rfl, jf.cg rfl rfl rfl, jw.cg rfl rfl rfl rfl rfl rfl rfl rfl rfl, jh.cg rfl rfl rfl rfl rfl, jz.cg rfl rfl rfl rfl rfl rfl rfl rfl, jl.cg rfl rfl rfl rfl rfl rfl rfl rfl⟩
theorem clsq (hj : JJ m c d B T z V R FN FI ow) {s : Nat} (hM : JM m c s) (hs : s < m.K) (price before : Int32) (hb : before = (m.st s).toInt32) (q : SCT) : ∀ h, MB h → ∃ q', XM L xs 66 [.ref 8, .int (nI s), .int price] (ml h (m.sW q)) = some (ml h ((mAct m s price (nI (potV B c s))).sW q'), none) := by
  intro h hh
  obtain ⟨q', hq⟩ := (cls L xs (hj.sWq q) (s := s) hM hs price before hb).2 h hh
  exact ⟨q', hq⟩
theorem Inv.act {i : Nat} {m0 : MS} (hj : JJ m c d B T z V R FN FI ow) {s : Nat} (hM : JM m c s) (hs : s < m.K) (price pot : Int32) (q : SCT) {B0 : AH} (jq : JQ B0 m0 i) (eN : m.N = m0.N) (hn : nn B ≤ nn B0 + 4) (hsl : sl B + 2 * rwP m ≤ sl B0 + 2 * rwP m0 + 20) : Inv i (ml B ((mAct m s price pot).sW q)) ((mAct m s price pot).sW q) (cCls c s (nI s) price (nI m.sp) pot) d := by
  refine Inv.mk' (T := T) (z := z) (V := V) (R := R) (FN := FN) (FI := FI) (ow := ow) (act_JA hM hs price pot) (JQ.act jq ?_ hn hsl) ((hj.act s _ _ _ _ _ _).sWq q)
  show m.N + 1 = m0.N + 1
  rw [eN]
end Clq
