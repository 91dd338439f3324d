-- drop
theorem JM.fkv {m : MS} {c : CS} {s : Nat} (h : JM m c s) (a : Int64) (b : Int32) : JM ((m.sfk a).sfv b) ((c.sfk a).sfv b) s := by
  obtain ⟨a1, a2, ⟨g1, g2, g3, g4, g5⟩, a4, a5⟩ := h
  exact ⟨a1, a2, ⟨rfl, rfl, g3, g4, g5⟩, a4, a5⟩
section Drq
variable (L : Nat) (xs : Nat → Int32)
theorem lose_any {m : MS} {c : CS} {d : DS} {B : AH} {T z : Nat → Nat} {V R : Nat → List Nat} {FN FI : List Nat} {ow : Nat → Nat} (hj : JJ m c d B T z V R FN FI ow) {s n : Nat} (hs : s < m.K) (ks : m.kd s ≤ 1) (hn : T n = s + 1) (hro : m.kd s = 1 → c.ro s = n) (hM : JM m c s) (hsp : m.sp ≤ 50000) : LoseOK L xs m c d B R s n := by
  by_cases nx : m.nx (m.fV n) = 0
  · have : m.kd s = 0 ∨ m.kd s = 1 := by omega
    rcases this with k | k
    · by_cases l0 : c.P.1 n = 0
      · exact lose_P1 L xs hj hs k hn hM (by omega) nx (Or.inl l0)
      · by_cases r0 : c.P.2.1 n = 0
        · exact lose_P1 L xs hj hs k hn hM (by omega) nx (Or.inr r0)
        · exact lose_P2 L xs hj hs k hn hM (by omega) nx l0 r0
    · by_cases l0 : c.P.1 n = 0
      · exact lose_T0 L xs hj hs k hn (hro k) hM (by omega) nx l0
      · exact lose_T1 L xs hj hs k hn (hro k) hM hsp nx l0
  · exact lose_A L xs hj hs ks hn hM (by omega) nx
set_option maxHeartbeats 8000000 in
theorem drop_go {i : Nat} {B : AH} {m : MS} {c : CS} {d : DS} (hI : Inv i B m c d) {s : Nat} (hs : s < m.K) (hk : m.kd s ≤ 1) (hN : m.N < 20000) (k : Int64) : Ans L xs i B m c d 6 77 [.int (nI s), .long k] := by
  obtain ⟨e0, ja, jq, T, z, V, R, FN, FI, ow, hj⟩ := id hI
  obtain ⟨jb, js, jt, jr, jp, jd, jv, ji, jf, jw, jh, jz, jl⟩ := id hj
  obtain ⟨p1, p2, p3, p4⟩ := id jb.1
  obtain ⟨h1, h2, h3, h4, h5, h6⟩ := hj.kin hs
  have hw := jb.2.2.2.2.2
  have hK := hj.K
  have hs40 : s < 40 := by omega
  have hs31 : s < 2 ^ 31 := by omega
  have κ0 : s + 1 ≠ 0 := Nat.succ_ne_zero s
  have er := ((jr s hs).1 (by omega)).1
  have hzr := hj.zle (hj.rz hs)
  have ehe := hj.he hs (by omega)
  have f16 : hasF (tg B (d.sa (s + 1))) 16 = true := by rw [h6]; exact (tgS_f h5).2.2.2.2
  have f14 : hasF (tg B (d.sa (s + 1))) 14 = true := by rw [h6]; exact (tgS_f h5).2.2.1
  have egT := gT_cg (ky := m.ky) (ky' := c.ck) (P := m.P) jt.1 (fun a ha => ⟨(jp.2 a ha).1, (jp.2 a ha).2.1, (jp.2 a ha).2.2.1⟩) k 20003 (c.ro s) (hj.rz hs)
  have gle := gT_le (ky := c.ck) (P := c.P) k 20003 (c.ro s)
  have gmem : (gT c.ck c.P k 20003 (c.ro s)).1 ≠ 0 → T (gT c.ck c.P k 20003 (c.ro s)).1 = s + 1 := by
    intro n0
    have r0 : c.ro s ≠ 0 := fun q => n0 (by rw [q]; unfold gT; rw [if_pos rfl])
    have tr := ((jr s hs).2.2.1 r0).1
    rw [gT_mem jt.1 k 20003 _ (by rw [tr]; exact Nat.succ_ne_zero s), tr]
  generalize hn : (gT c.ck c.P k 20003 (c.ro s)).1 = n at gmem
  generalize hg : (gT c.ck c.P k 20003 (c.ro s)).2 = g2 at gle
  obtain ⟨tl', go, gl⟩ := go_ok L xs hj hs hk k hn hg
  have go0 := go m
  rw [e0] at go0
  generalize hc1 : (cW c s n tl' g2).sst (u1 c.st s (c.st s + nI g2)) = c1 at go go0 gl
  have hj1 : JJ m (cLz (m.kd s) c1 s) d B T z V R FN FI ow := by rw [← hc1]; exact hj.go hs _ hk (by rw [hc1]; exact gl)
  have e1 : c1.pu = c.pu ∧ c1.st = u1 c.st s (c.st s + nI g2) ∧ c1.fk = c.fk ∧ c1.fv = c.fv ∧ c1.E = c.E ∧ c1.cn = c.cn ∧ c1.N = c.N ∧ c1.rO = c.rO ∧ c1.rP = c.rP ∧ c1.rT = c.rT ∧ c1.rQ = c.rQ ∧ c1.ck = c.ck ∧ c1.la = u1 c.la s n ∧ c1.f1 = c.f1 ∧ c1.nv = c.nv ∧ c1.vn = c.vn := by
    rw [← hc1]
    exact ⟨rfl, rfl, rfl, rfl, rfl, rfl, rfl, rfl, rfl, rfl, rfl, rfl, rfl, rfl, rfl, rfl⟩
  obtain ⟨q1, q2, q3, q4, q5, q6, q7, q8, q9, q10, q11, q12, q13, q14, q15, q16⟩ := e1
  have hla : c1.la s = n := by rw [q13, u1_s]
  have lzn : LZ T n := by
    by_cases n0 : n = 0
    · exact Or.inl n0
    · exact Or.inr (by rw [gmem n0]; exact Nat.succ_ne_zero s)
  have hdn := hj.hD n lzn
  have nb : n ≤ 20002 := by
    rcases lzn with q | q
    · omega
    · exact jt.2.1.2 n q
  have price := c158 L xs h2 f14 c (by omega)
  have price' : cfD (XM L xs) 0 54 (tg B (d.sa (s + 1))) [.ref (d.sa (s + 1))] (cl B d c) = some (cl B d c, some (.int (prT (c.he s)))) := by
    rcases hj.tgt hs hk with q | q
    · rw [q, cc_0_54_5, price]
    · rw [q, cc_0_54_7, price]
  have hMm : JM (m.ssp g2) c1 s := by
    refine JM.of ja hN hs q1 q2 rfl rfl rfl (by show g2 ≤ 100000; omega) ⟨by rw [q3]; exact ja.2.1.1, by rw [q4]; exact ja.2.1.2.1, by rw [q5]; exact ja.2.1.2.2.1, by have := ja.2.1.2.2.2.1; show m.se ≤ m.N + 1; omega, by have := ja.2.1.2.2.2.2; rw [q6]; omega⟩ q7 rfl q8 q9 q10 q11 rfl rfl rfl rfl
  obtain ⟨v1, ⟨z2, s2⟩, s3, s4, s5⟩ := stl_ok L xs (m := m.ssp g2) (hj1.ssp g2) hs hk gmem hMm (by show g2 ≤ 50000; omega)
  have v1 := v1 m
  rw [e0] at v1
  have v1 : cfD (XM L xs) 11 50 (tg B (d.sa (s + 1))) [.ref (d.sa (s + 1)), .ref (d.ph n)] (cl B d c1) = some (cl B d (cStl (m.kd s) c1 s n T), none) := v1
  have hTr := HmTrn (m.ssp g2) s n
  have hSt := HcStl (m.kd s) c1 s n T
  have s2 : JJ (mTrn (m.ssp g2) s n) (cStl (m.kd s) c1 s n T) d B T z2 V R FN FI ow := s2
  have s3 : JM (mTrn (m.ssp g2) s n) (cStl (m.kd s) c1 s n T) s := s3
  have s5 : m.kd s = 1 → n ≠ 0 → (cStl (m.kd s) c1 s n T).ro s = n := s5
  have hrw0 : rwP (mTrn (m.ssp g2) s n) = rwP m := rwP_trn (m.ssp g2) s n
  obtain ⟨mT, hmT⟩ : ∃ x, x = mTrn (m.ssp g2) s n := ⟨_, rfl⟩
  rw [← hmT] at s2 s3 s4 hTr hrw0
  have s4 : mT.sp ≤ g2 + 20003 := s4
  obtain ⟨t1, t2, t3, t4, t5, t6, t7, t8, t9, t10, t11, t12⟩ := hTr
  have t1 : mT.ky = m.ky := t1
  have t2 : mT.fV = m.fV := t2
  have t5 : mT.it = m.it := t5
  have t6 : mT.kd = m.kd := t6
  have t7 : mT.K = m.K := t7
  have t8 : mT.N = m.N := t8
  have t9 : mT.st = m.st := t9
  obtain ⟨cT, hcT⟩ : ∃ x, x = cStl (m.kd s) c1 s n T := ⟨_, rfl⟩
  rw [← hcT] at s2 s3 s5 hSt v1
  obtain ⟨y1, y2, y3, y4, y5, y6, y7, y8⟩ := hSt
  clear hcT
  have trn : ∀ h, MB h → ∀ q, XM L xs 73 [.ref 8, .int (nI s), .int (en n)] (ml h ((m.ssp g2).sW q)) = some (ml h (mT.sW q), none) := fun h hh q => by
    have trn := m_73 L xs hh ((m.ssp g2).sW q) (S := ind T (s + 1)) (z := z) jp.1 hs40 (by show m.kd s ≤ 5; omega) (n := n) nb (fun g1 g2 => by
      have g1 : m.kd s = 1 := g1
      have lv : ∀ a, ind T (s + 1) a ≠ 0 → T a = s + 1 := fun a ha => (ind_ne κ0 a).mp ha
      have hWi : WF c.P (ind T (s + 1)) z := WF.ind (l := c.P.1) (r := c.P.2.1) (u := c.P.2.2) (u' := c.P.2.2) jt.1 κ0 (fun _ _ => rfl)
      refine ⟨hWi.pt (fun a ha => ?_), fun a ha => jt.2.1.2 a (by rw [lv a ha]; exact κ0), by rw [ind_eq (gmem g2)]; exact κ0⟩
      show m.P.1 a = _ ∧ m.P.2.1 a = _ ∧ m.P.2.2 a = _
      have p := jp.2 a (by rw [lv a ha]; exact κ0)
      exact ⟨p.1, p.2.1, p.2.2.2 (by rw [lv a ha, Nat.add_sub_cancel]; exact hk)⟩)
    rw [mTrn_sW, ← hmT] at trn
    exact trn
  clear hmT
  -- what the reference does ahead of the losing
  have mpre : ∀ h, MB h → ∃ q, X L xs 77 34 [.ref 8, .int (nI s), .long k, .null, .null, .null, .null, .null] [] (ml h m) = if n ≠ 0 ∧ c.ck n = k then X L xs 77 121 [.ref 8, .int (nI s), .long k, .null, .int (prT (c.he s)), .int (en n), .int 1, .int (en (m.fV n))] [] (ml h (((mT.sfk k).sfv (m.it (m.fV n)).toInt32).sW q)) else X L xs 77 177 [.ref 8, .int (nI s), .long k, .null, .int (prT (c.he s)), .int (en n), .int 0, .null] [] (ml h (mT.sW q)) := by
    intro h hh
    obtain ⟨b1, b2, b3, b4⟩ := id hh
    obtain ⟨q, hq⟩ := m_64 L xs hh (m.ssp 0) (up := c.P.2.2) (T := T) (z := z) hj.mw jt.2.1 hs40 (by show LZ T (m.rt s); rw [er]; exact hj.rz hs)
    have hq : XM L xs 64 [.ref 8, .int (nI s)] (ml h (m.ssp 0)) = some (ml h ((m.ssp 0).sW q), some (.int (nI (z (m.rt s))))) := hq
    rw [er, ehe] at hq
    have e71 := s_71 L xs (ml h ((m.ssp 0).sW q)) 8 (c.he s) (by omega)
    have e72 := m_72 L xs hh ((m.ssp 0).sW q) (up := c.P.2.2) (T := T) (z := z) hj.mw jt.2.1 k hs40 (by show LZ T (m.rt s); rw [er]; exact hj.rz hs)
    have e72 : XM L xs 72 [.ref 8, .int (nI s), .long k] (ml h ((m.ssp 0).sW q)) = some (ml h ((m.ssp (0 + (gT m.ky m.P k 20003 (m.rt s)).2)).sW q), some (.int (en (gT m.ky m.P k 20003 (m.rt s)).1))) := e72
    rw [er, egT, hn, hg, Nat.zero_add] at e72
    refine ⟨q, ?_⟩
    rw [k_77_34]
    simp only [Hml, b1, b2, b3, b4, HF10, gd_t, decide_true, Bool.and_self, HQ, HZ]
    rw [← nI_0, ml_sp, k_77_39]
    simp only [Hml, b1, b2, b3, b4, HF10, gd_t, decide_true, Bool.and_self, HQ, HZ, cc_9_150_10, hq, bI_s, cc_9_153_10, e71, cc_9_156_10, e72, cc_9_169_10, trn h hh q, bV_s]
    simp only [en_m1 (show n < 2 ^ 31 by omega)]
    by_cases n0 : n = 0
    · rw [if_pos n0, k_77_87, k_77_88, if_pos rfl, if_neg (fun g => g.1 n0), nI_0]
      rfl
    · have tn : T n ≠ 0 := lzn.resolve_left n0
      have v1 := hj.f1 tn
      have pc := jp.2 n tn
      rw [if_neg n0, k_77_71]
      simp only [Hml, b1, b2, b3, b4, HF10, gd_t, decide_true, Bool.and_self, HQ, HZ, SWq, inb_en (show 1 ≤ n by omega) nb (by decide), cl_en (show 1 ≤ n by omega) (show n < 2 ^ 31 by omega), show n - 1 + 1 = n from by omega, t1, pc.2.2.1, lg_cmp_eq]
      by_cases e : c.ck n = k
      · rw [if_neg (fun g => g e), k_77_83, k_77_88, if_neg (by decide), k_77_95]
        simp only [Hml, b1, b2, b3, b4, HF10, gd_t, decide_true, Bool.and_self, HQ, HZ, SWq, inb_en (show 1 ≤ n by omega) nb (by decide), cl_en (show 1 ≤ n by omega) (show n < 2 ^ 31 by omega), show n - 1 + 1 = n from by omega, t2, ml_fk]
        rw [k_77_109]
        simp only [Hml, b1, b2, b3, b4, HF10, gd_t, decide_true, Bool.and_self, HQ, HZ, SWq, Sfk, inb_en (show 1 ≤ m.fV n by omega) (show m.fV n ≤ 20002 by omega) (by decide), cl_en (show 1 ≤ m.fV n by omega) (show m.fV n < 2 ^ 31 by omega), show m.fV n - 1 + 1 = m.fV n from by omega, t5, ml_fv]
        rw [if_pos ⟨n0, e⟩]
        rfl
      · rw [if_pos e, k_77_87, k_77_88, if_pos rfl, if_neg (fun g => e g.2)]
        rfl
  -- the class, as far as the node
  have sk : ∀ n', (n' = if n ≠ 0 ∧ c.ck n = k then n else 0) → cfD (XM L xs) 0 64 (tg B (d.sa (s + 1))) [.ref (d.sa (s + 1)), .long k] (cl B d c) = some (cl B d cT, some (.ref (d.ph n'))) := fun n' hn' => by
    have sk := c162 L xs hw jb.2.2.2.1 h2 (hj.tgt hs hk) go0 hla hdn v1
    rw [y1, q12, ← hn'] at sk
    rcases hj.tgt hs hk with q | q
    · rw [q, cc_0_64_5, sk]
    · rw [q, cc_0_64_7, sk]
  have hsT : s < mT.K := by rw [t7]; exact hs
  have hst0 : c.st s = (mT.st s).toInt32 := by rw [t9]; exact (ja.1 s hs).2
  by_cases met : n ≠ 0 ∧ c.ck n = k
  · have n0 := met.1
    have tn : T n ≠ 0 := lzn.resolve_left n0
    have v1' := hj.f1 tn
    have sk1 := sk n (by rw [if_pos met])
    have rem := c37 L xs jb.1 hw jb.2.2.2.1 jb.2.2.2.2.1 cT hdn (fun _ => by
      rw [y3, q14, v1'.1]; exact v1'.2.2.2.1)
    have eR1 : cRem cT n = (cT.sfk k).sfv (m.it (m.fV n)).toInt32 := by
      unfold cRem
      rw [if_neg n0, y1, q12, y3, q14, y4, q16, v1'.1, if_neg v1'.2.1, v1'.2.2.2.2.1, met.2]
    rw [eR1] at rem
    have hj2 := s2.fkv k k (m.it (m.fV n)).toInt32 (m.it (m.fV n)).toInt32
    have hM2 := s3.fkv k (m.it (m.fV n)).toInt32
    obtain ⟨m2, hm2⟩ : ∃ x, x = (mT.sfk k).sfv (m.it (m.fV n)).toInt32 := ⟨_, rfl⟩
    have g2' : m2.fV = mT.fV ∧ m2.K = mT.K ∧ m2.kd = mT.kd ∧ m2.N = mT.N ∧ m2.st = mT.st ∧ m2.nu = mT.nu ∧ m2.pl = mT.pl ∧ m2.sp = mT.sp := by rw [hm2]; exact ⟨rfl, rfl, rfl, rfl, rfl, rfl, rfl, rfl⟩
    rw [← hm2] at hj2 hM2
    obtain ⟨c2, hc2⟩ : ∃ x, x = (cT.sfk k).sfv (m.it (m.fV n)).toInt32 := ⟨_, rfl⟩
    have gc2 : c2.ro = cT.ro := by rw [hc2]; rfl
    rw [← hc2] at hj2 hM2 rem
    obtain ⟨x1, x2, x3, x4, x5, x6, x7, x8⟩ := g2'
    have lo := lose_any L xs hj2 (s := s) (n := n) (by rw [x2]; exact hsT) (by rw [x3, t6]; exact hk) (gmem n0) (fun q => by rw [gc2]; exact s5 (by rw [x3, t6] at q; exact q) n0) hM2 (by rw [x8]; omega)
    obtain ⟨c3, d', m3, T', z', V', FN', FI', ow', l1, l2, l3, l4, l5, l6, l7, l8, l9, l10, l11, l12, l13, l14⟩ := lo
    obtain ⟨c4, hc4⟩ : ∃ x, x = c3.sE (c2.E - 1) := ⟨_, rfl⟩
    rw [← hc4] at l4 l5
    have hj4 := l4.cb d c4
    have hs3 : s < m3.K := by rw [l8, x2]; exact hsT
    have hst3 : c.st s = (m3.st s).toInt32 := by rw [l11, x5]; exact hst0
    have hcl := (cls L xs hj4 l5 hs3 (prT (c.he s)) (c.st s) hst3).1
    rw [← l2 c4] at hcl
    have hsa : d'.sa (s + 1) = d.sa (s + 1) := l14 s
    rw [hsa] at hcl
    have hrw : rwP m3 = rwP m := by
      rw [← hrw0]
      unfold rwP
      rw [l8, l9, l12, l13, x2, x3, x6, x7]
    refine Ans.of L xs (B' := cl B d c4) (c' := cCls c4 s (nI s) (prT (c.he s)) (nI m3.sp) (nI (potV (cl B d c4) c4 s))) (d' := d') (r := .int 1) ?_ (ml_clb e0 d c4) jb.2.1 (fun h hh => ?_)
    · rw [((pre_6 L xs ja hj (nI s) k).2 s hs rfl).1, if_pos hk, if_neg (by omega), k_6_31]
      simp only [Hcl, p1, p2, p3, p4, HF1, HF2, gd_t, decide_true, Bool.and_self, HQ, HZ, dS hw h2, price', bI_s, f16, Rs d h2, sk1, bR_s, cc_0_68_1, rem, bV_s, ph0 hw hdn]
      rw [if_neg n0, k_6_64]
      have l1' : cfD (XM L xs) 0 81 (tg B (d.sa (s + 1))) [.ref (d.sa (s + 1)), .ref (d.ph n)] (cl B d c2) = some (cl B d c3, none) := by
        rcases hj.tgt hs hk with q | q
        · rw [q, cc_0_81_5, l1]
        · rw [q, cc_0_81_7, l1]
      simp only [Hcl, p1, p2, p3, p4, HF1, HF2, gd_t, decide_true, Bool.and_self, HQ, HZ, dS hw h2, l1', bV_s]
      rw [show nI c3.E - 1 = nI (c3.E - 1) from pk_sub (by rw [l7]; exact l6), cl_E, l7, ← hc4, k_6_81]
      simp only [Hcl, p1, p2, p3, p4, HF1, HF2, gd_t, decide_true, Bool.and_self, HQ, HZ, cc_0_72_1, hcl, bV_s, ph0 hw hdn]
      rw [if_neg n0, k_6_101, k_6_102]
    · obtain ⟨b1, b2, b3, b4⟩ := id hh
      obtain ⟨q, hq⟩ := mpre h hh
      rw [if_pos met, ← hm2] at hq
      have ef : m2.fV n = m.fV n := by rw [x1, t2]
      have l3' := l3 h hh q (prT (c.he s)) k
      rw [ef] at l3'
      obtain ⟨q3, hq3⟩ := clsq L xs hj4 l5 hs3 (prT (c.he s)) (c.st s) hst3 q h hh
      refine ⟨((mAct m3 s (prT (c.he s)) (nI (potV (cl B d c4) c4 s))).sW q3), ?_, ?_⟩
      · rw [((pre_6 L xs ja hj (nI s) k).2 s hs rfl).2 h hh, if_pos hk, if_neg (by omega), hq, l3', k_77_177]
        simp only [Hml, b1, b2, b3, b4, HF10, gd_t, decide_true, Bool.and_self, HQ, HZ, cc_9_172_10, hq3, bV_s]
        rw [if_neg (by decide), k_77_189, k_77_194]
      · exact Inv.up (Inv.act hj4 l5 hs3 _ _ q3 (B0 := B) jq (by rw [l10, x4, t8]) (by show nn B ≤ nn B + 4; omega) (by show sl B + 2 * rwP m3 ≤ _; rw [hrw]; omega))
  · have sk1 := sk 0 (by rw [if_neg met])
    have hd0 : d.nid (d.ph 0) = 0 := hj.hD 0 (Or.inl rfl)
    have rem := c37 L xs jb.1 hw jb.2.2.2.1 jb.2.2.2.2.1 cT hd0 (fun g => absurd rfl g)
    have eR1 : cRem cT 0 = cT := by unfold cRem; rw [if_pos rfl]
    rw [eR1] at rem
    obtain ⟨k1, -⟩ := cls L xs s2 s3 hsT (prT (c.he s)) (c.st s) hst0
    refine Ans.of L xs (B' := B) (c' := cCls cT s (nI s) (prT (c.he s)) (nI mT.sp) (nI (potV B cT s))) (d' := d) (r := .int 0) ?_ e0 jb.2.1 (fun h hh => ?_)
    · rw [((pre_6 L xs ja hj (nI s) k).2 s hs rfl).1, if_pos hk, if_neg (by omega), k_6_31]
      simp only [Hcl, p1, p2, p3, p4, HF1, HF2, gd_t, decide_true, Bool.and_self, HQ, HZ, dS hw h2, price', bI_s, f16, Rs d h2, sk1, bR_s, cc_0_68_1, rem, bV_s, ph0 hw hd0]
      rw [if_pos trivial, k_6_81]
      simp only [Hcl, p1, p2, p3, p4, HF1, HF2, gd_t, decide_true, Bool.and_self, HQ, HZ, cc_0_72_1, k1, bV_s, ph0 hw hd0]
      rw [if_pos trivial, k_6_97, k_6_102]
    · obtain ⟨b1, b2, b3, b4⟩ := id hh
      obtain ⟨q, hq⟩ := mpre h hh
      rw [if_neg met] at hq
      obtain ⟨q3, hq3⟩ := clsq L xs s2 s3 hsT (prT (c.he s)) (c.st s) hst0 q h hh
      refine ⟨((mAct mT s (prT (c.he s)) (nI (potV B cT s))).sW q3), ?_, ?_⟩
      · rw [((pre_6 L xs ja hj (nI s) k).2 s hs rfl).2 h hh, if_pos hk, if_neg (by omega), hq, k_77_177]
        simp only [Hml, b1, b2, b3, b4, HF10, gd_t, decide_true, Bool.and_self, HQ, HZ, cc_9_172_10, hq3, bV_s]
        rw [if_pos trivial, k_77_193, k_77_194]
      · exact Inv.up (Inv.act s2 s3 hsT _ _ q3 jq t8 (by omega) (by rw [hrw0]; omega))
theorem q_drop {i : Nat} {B : AH} {m : MS} {c : CS} {d : DS} (hI : Inv i B m c d) (a : Int32) (k : Int64) : Ans L xs i B m c d 6 77 [.int a, .long k] := by
  obtain ⟨e0, ja, jq, T, z, V, R, FN, FI, ow, hj⟩ := id hI
  have pp := pre_6 L xs ja hj a k
  rcases st_of hj.K.1 a with ha | ⟨s, hs, rfl⟩
  · exact Ans.of L xs (pp.1 ha).1 e0 hj.1.2.1 (fun h hh => ⟨m, (pp.1 ha).2 h hh, hI.stay⟩)
  · obtain ⟨x1, x2⟩ := pp.2 s hs rfl
    by_cases hk : m.kd s ≤ 1
    · by_cases hN : m.N = 20000
      · rw [if_pos hk, if_pos hN] at x1
        exact Ans.of L xs x1 e0 hj.1.2.1 (fun h hh => ⟨m, by rw [x2 h hh, if_pos hk, if_pos hN], hI.stay⟩)
      · exact drop_go L xs hI hs hk (by have := ja.2.2.1.2.1; omega) k
    · rw [if_neg hk] at x1
      exact Ans.of L xs x1 e0 hj.1.2.1 (fun h hh => ⟨m, by rw [x2 h hh, if_neg hk], hI.stay⟩)
end Drq
