-- find, below, above
theorem JQ.act0 {B : AH} {m m' : MS} {i : Nat} (h : JQ B m i) (h0 : m'.N = m.N + 1) (h1 : rwP m' = rwP m) : JQ B m' i := JQ.act h h0 (by omega) (by rw [h1]; omega)
theorem Inv.up {i : Nat} {B : AH} {m : MS} {c : CS} {d : DS} (h : Inv i B m c d) : Inv (i + 1) B m c d := ⟨h.1, h.2.1, h.2.2.1.up, h.2.2.2⟩
section Fnd2
variable (L : Nat) (xs : Nat → Int32)
theorem find_go {i : Nat} {B : AH} {m : MS} {c : CS} {d : DS} (hI : Inv i B m c d) {s : Nat} (hs : s < m.K) (hk : m.kd s ≤ 1) (hN : m.N < 20000) (k : Int64) : Ans L xs i B m c d 5 76 [.int (nI s), .long k] := by
  obtain ⟨e0, ja, jq, T, z, V, R, FN, FI, ow, hj⟩ := id hI
  obtain ⟨jb, js, jt, jr, jp, jd, jv, ji, jf, jw, jh, jz, jl⟩ := id hj
  obtain ⟨p1, p2, p3, p4⟩ := id jb.1
  obtain ⟨h1, h2, h3, h4, h5, h6⟩ := hj.kin hs
  have hw := jb.2.2.2.2.2
  have hK := hj.K
  have hs40 : s < 40 := by omega
  have hs31 : s < 2 ^ 31 := by omega
  have er := ((jr s hs).1 (by omega)).1
  have hzr := hj.zle (hj.rz hs)
  have ehe := hj.he hs (by omega)
  have f16 : hasF (tg B (d.sa (s + 1))) 16 = true := by rw [h6]; exact (tgS_f h5).2.2.2.2
  have f14 : hasF (tg B (d.sa (s + 1))) 14 = true := by rw [h6]; exact (tgS_f h5).2.2.1
  have egT := gT_cg (ky := m.ky) (ky' := c.ck) (P := m.P) jt.1 (fun a ha => ⟨(jp.2 a ha).1, (jp.2 a ha).2.1, (jp.2 a ha).2.2.1⟩) k 20003 (c.ro s) (hj.rz hs)
  have gle := gT_le (ky := c.ck) (P := c.P) k 20003 (c.ro s)
  have gmem : (gT c.ck c.P k 20003 (c.ro s)).1 ≠ 0 → T (gT c.ck c.P k 20003 (c.ro s)).1 = s + 1 := by
    intro n0
    have r0 : c.ro s ≠ 0 := fun q => n0 (by rw [q]; unfold gT; rw [if_pos rfl])
    have tr := ((jr s hs).2.2.1 r0).1
    rw [gT_mem jt.1 k 20003 _ (by rw [tr]; exact Nat.succ_ne_zero s), tr]
  generalize hn : (gT c.ck c.P k 20003 (c.ro s)).1 = n at gmem
  generalize hg : (gT c.ck c.P k 20003 (c.ro s)).2 = g2 at gle
  obtain ⟨tl', go, gl⟩ := go_ok L xs hj hs hk k hn hg
  have go0 := go m
  rw [e0] at go0
  generalize hc1 : (cW c s n tl' g2).sst (u1 c.st s (c.st s + nI g2)) = c1 at go go0 gl
  have hj1 : JJ m (cLz (m.kd s) c1 s) d B T z V R FN FI ow := by rw [← hc1]; exact hj.go hs _ hk (by rw [hc1]; exact gl)
  have e1 : c1.pu = c.pu ∧ c1.st = u1 c.st s (c.st s + nI g2) ∧ c1.fk = c.fk ∧ c1.fv = c.fv ∧ c1.E = c.E ∧ c1.cn = c.cn ∧ c1.N = c.N ∧ c1.rO = c.rO ∧ c1.rP = c.rP ∧ c1.rT = c.rT ∧ c1.rQ = c.rQ ∧ c1.ck = c.ck ∧ c1.la = u1 c.la s n ∧ c1.f1 = c.f1 ∧ c1.nv = c.nv ∧ c1.vn = c.vn := by
    rw [← hc1]
    exact ⟨rfl, rfl, rfl, rfl, rfl, rfl, rfl, rfl, rfl, rfl, rfl, rfl, rfl, rfl, rfl, rfl⟩
  obtain ⟨q1, q2, q3, q4, q5, q6, q7, q8, q9, q10, q11, q12, q13, q14, q15, q16⟩ := e1
  have hla : c1.la s = n := by rw [q13, u1_s]
  have lzn : LZ T n := by
    by_cases n0 : n = 0
    · exact Or.inl n0
    · exact Or.inr (by rw [gmem n0]; exact Nat.succ_ne_zero s)
  have hdn := hj.hD n lzn
  obtain ⟨f1, f2, f3, f4, f5, f6⟩ := ja.2.1.1 |> fun _ => (⟨ja.2.1.1, ja.2.1.2.1, ja.2.1.2.2.1, ja.2.1.2.2.2.1, ja.2.1.2.2.2.2, trivial⟩ : c.fk = m.fk ∧ c.fv = m.fv ∧ c.E = m.E ∧ m.se ≤ m.N ∧ c.cn ≤ m.N ∧ True)
  have price := c158 L xs h2 f14 c (by omega)
  have price' : cfD (XM L xs) 0 54 (tg B (d.sa (s + 1))) [.ref (d.sa (s + 1))] (cl B d c) = some (cl B d c, some (.int (prT (c.he s)))) := by
    rcases hj.tgt hs hk with q | q
    · rw [q, cc_0_54_5, price]
    · rw [q, cc_0_54_7, price]
  -- what the reference does ahead of the closing
  have mpre : ∀ h, MB h → ∃ q, X L xs 76 34 [.ref 8, .int (nI s), .long k, .null, .null, .null, .null, .null] [] (ml h m) = if n ≠ 0 ∧ c.ck n = k then X L xs 76 118 [.ref 8, .int (nI s), .long k, .null, .int (prT (c.he s)), .int (en n), .int 1, .null] [.int (nI (V n).length)] (ml h (((((m.ssp g2).sfk k).sfv (m.it (m.fV n)).toInt32)).sW q)) else X L xs 76 118 [.ref 8, .int (nI s), .long k, .null, .int (prT (c.he s)), .int (en n), .int 0, .null] [.int 0] (ml h ((m.ssp g2).sW q)) := by
    intro h hh
    obtain ⟨b1, b2, b3, b4⟩ := id hh
    obtain ⟨q, hq⟩ := m_64 L xs hh (m.ssp 0) (up := c.P.2.2) (T := T) (z := z) hj.mw jt.2.1 hs40 (by show LZ T (m.rt s); rw [er]; exact hj.rz hs)
    have hq : XM L xs 64 [.ref 8, .int (nI s)] (ml h (m.ssp 0)) = some (ml h ((m.ssp 0).sW q), some (.int (nI (z (m.rt s))))) := hq
    rw [er, ehe] at hq
    have e71 := s_71 L xs (ml h ((m.ssp 0).sW q)) 8 (c.he s) (by omega)
    have e72 := m_72 L xs hh ((m.ssp 0).sW q) (up := c.P.2.2) (T := T) (z := z) hj.mw jt.2.1 k hs40 (by show LZ T (m.rt s); rw [er]; exact hj.rz hs)
    have e72 : XM L xs 72 [.ref 8, .int (nI s), .long k] (ml h ((m.ssp 0).sW q)) = some (ml h ((m.ssp (0 + (gT m.ky m.P k 20003 (m.rt s)).2)).sW q), some (.int (en (gT m.ky m.P k 20003 (m.rt s)).1))) := e72
    rw [er, egT, hn, hg, Nat.zero_add] at e72
    refine ⟨q, ?_⟩
    rw [k_76_34]
    simp only [Hml, b1, b2, b3, b4, HF10, gd_t, decide_true, Bool.and_self, HQ, HZ]
    rw [← nI_0, ml_sp, k_76_39]
    simp only [Hml, b1, b2, b3, b4, HF10, gd_t, decide_true, Bool.and_self, HQ, HZ, cc_9_150_10, hq, bI_s, cc_9_153_10, e71, cc_9_156_10, e72]
    have nb : n ≤ 20002 := by
      rcases lzn with q | q
      · omega
      · exact jt.2.1.2 n q
    simp only [en_m1 (show n < 2 ^ 31 by omega)]
    by_cases n0 : n = 0
    · rw [if_pos n0, k_76_80, k_76_81, if_pos rfl, k_76_103, if_pos rfl, k_76_117, if_neg (fun g => g.1 n0), nI_0]
      rfl
    · have tn : T n ≠ 0 := lzn.resolve_left n0
      have v1 := hj.f1 tn
      have pc := jp.2 n tn
      rw [if_neg n0, k_76_64]
      simp only [Hml, b1, b2, b3, b4, HF10, gd_t, decide_true, Bool.and_self, HQ, HZ, SWq, Ssp, inb_en (show 1 ≤ n by omega) nb (by decide), cl_en (show 1 ≤ n by omega) (show n < 2 ^ 31 by omega), show n - 1 + 1 = n from by omega, pc.2.2.1, lg_cmp_eq]
      by_cases e : c.ck n = k
      · rw [if_neg (fun g => g e), k_76_76, k_76_81, if_neg (by decide), k_76_88]
        simp only [Hml, b1, b2, b3, b4, HF10, gd_t, decide_true, Bool.and_self, HQ, HZ, ml_fk]
        rw [k_76_93]
        have e58 := m_58 L xs hh (((m.ssp g2).sW q).sfk k) (show 1 ≤ n by omega) nb (show 1 ≤ m.fV n by omega) (show m.fV n ≤ 20002 by omega)
        have e58 : XM L xs 58 [.ref 8, .int (en n)] (ml h (((m.ssp g2).sW q).sfk k)) = some (ml h (((m.ssp g2).sW q).sfk k), some (.int (m.it (m.fV n)).toInt32)) := e58
        simp only [Hml, b1, b2, b3, b4, HF10, gd_t, decide_true, Bool.and_self, HQ, HZ, cc_9_188_10, e58, bI_s, ml_fv]
        rw [k_76_103, if_neg (by decide), k_76_108]
        have e57 := m_57 L xs hh ((((m.ssp g2).sW q).sfk k).sfv (m.it (m.fV n)).toInt32) (show 1 ≤ n by omega) nb (l := V n) (jv n tn).2.1 v1.2.2.2.2.2.2.1
        simp only [Hml, b1, b2, b3, b4, HF10, gd_t, decide_true, Bool.and_self, HQ, HZ, cc_9_166_10, e57, bI_s]
        rw [if_pos ⟨n0, e⟩]
        rfl
      · rw [if_pos e, k_76_80, k_76_81, if_pos rfl, k_76_103, if_pos rfl, k_76_117, if_neg (fun g => e g.2)]
        rfl
  -- the two closings, at one state
  have fin : ∀ (mF : MS) (n' : Nat) (r : Int32) (f6 : Int32), (n' = if n ≠ 0 ∧ c.ck n = k then n else 0) → JJ mF (cLz (mF.kd s) (cRem c1 n') s) d B T z V R FN FI ow → JM mF (cRem c1 n') s → mF.sp = g2 → mF.K = m.K → mF.kd = m.kd → mF.st = m.st → mF.N = m.N → rwP mF = rwP m → BP mF.P → mF.P = m.P → (n' ≠ 0 → c.f1 n ≠ 0) → r = (if n' = 0 then 0 else nI (c.nv n')) → (∀ h, MB h → ∃ q, X L xs 76 34 [.ref 8, .int (nI s), .long k, .null, .null, .null, .null, .null] [] (ml h m) = X L xs 76 118 [.ref 8, .int (nI s), .long k, .null, .int (prT (c.he s)), .int (en n), .int f6, .null] [.int r] (ml h (mF.sW q))) → Ans L xs i B m c d 5 76 [.int (nI s), .long k] := by
    intro mF n' r f6 hn' hjF hMF hsp eK ekd est eN erw hBP ePm hfn hr hm
    have hsF : s < mF.K := by rw [eK]; exact hs
    have hkF : mF.kd s ≤ 1 := by rw [ekd]; exact hk
    obtain ⟨s1, ⟨z2, s2⟩, s3, s4, s5⟩ := stl_ok L xs hjF hsF hkF gmem hMF (by omega)
    rw [ekd] at s1 s2 s3 s5
    have hTr := HmTrn mF s n
    have hsT : s < (mTrn mF s n).K := by rw [hTr.2.2.2.2.2.2.1]; exact hsF
    obtain ⟨k1, -⟩ := cls L xs s2 s3 hsT (prT (c.he s)) (c.st s) (by rw [hTr.2.2.2.2.2.2.2.2.1, est]; exact (ja.1 s hs).2)
    have lz' : LZ T n' ∧ (n' ≠ 0 → n' = n ∧ n ≠ 0) := by
      rw [hn']
      split
      · rename_i g; exact ⟨lzn, fun _ => ⟨rfl, g.1⟩⟩
      · exact ⟨Or.inl rfl, fun g => absurd rfl g⟩
    have hdn' := hj.hD n' lz'.1
    have eR : cRem (cStl (m.kd s) c1 s n T) n' = cStl (m.kd s) (cRem c1 n') s n T := by
      unfold cRem
      by_cases g : n' = 0
      · rw [if_pos g, if_pos g]
      · rw [if_neg g, if_neg g, cStl_fkv, (HcStl (m.kd s) c1 s n T).1, (HcStl (m.kd s) c1 s n T).2.2.1, (HcStl (m.kd s) c1 s n T).2.2.2.1]
    -- settle does not look at what is found
    have hjm : JJ m (cLz (m.kd s) c1 s) d B T z V R FN FI ow := hj1
    have hMm : JM (m.ssp g2) c1 s := by
      refine JM.of ja hN hs q1 q2 rfl rfl rfl (by show g2 ≤ 100000; omega) ⟨by rw [q3]; exact f1, by rw [q4]; exact f2, by rw [q5]; exact f3, by show m.se ≤ m.N + 1; omega, by rw [q6]; omega⟩ q7 rfl q8 q9 q10 q11 rfl rfl rfl rfl
    obtain ⟨v1, -⟩ := stl_ok L xs (m := m.ssp g2) (hjm.ssp g2) hs hk gmem hMm (by show g2 ≤ 50000; omega)
    have v1 := v1 m
    rw [e0] at v1
    have v1 : cfD (XM L xs) 11 50 (tg B (d.sa (s + 1))) [.ref (d.sa (s + 1)), .ref (d.ph n)] (cl B d c1) = some (cl B d (cStl (m.kd s) c1 s n T), none) := v1
    have sk := c162 L xs hw jb.2.2.2.1 h2 (hj.tgt hs hk) go0 hla hdn v1
    rw [(HcStl (m.kd s) c1 s n T).1, q12, ← hn'] at sk
    have sk' : cfD (XM L xs) 0 64 (tg B (d.sa (s + 1))) [.ref (d.sa (s + 1)), .long k] (cl B d c) = some (cl B d (cStl (m.kd s) c1 s n T), some (.ref (d.ph n'))) := by
      rcases hj.tgt hs hk with q | q
      · rw [q, cc_0_64_5, sk]
      · rw [q, cc_0_64_7, sk]
    have rem := c37 L xs jb.1 hw jb.2.2.2.1 jb.2.2.2.2.1 (cStl (m.kd s) c1 s n T) hdn' (fun g => by
      rw [(HcStl (m.kd s) c1 s n T).2.2.1, q14, (lz'.2 g).1]
      have tn : T n ≠ 0 := lzn.resolve_left (lz'.2 g).2
      have := hj.f1 tn
      rw [this.1]; exact this.2.2.2.1)
    rw [eR] at rem
    have hcA : XM L xs 5 [.ref 1, .int (nI s), .long k] (cl B d c) = some (cl B d (cCls (cStl (m.kd s) (cRem c1 n') s n T) s (nI s) (prT (c.he s)) (nI (mTrn mF s n).sp) (nI (potV B (cStl (m.kd s) (cRem c1 n') s n T) s))), some (.int r)) := by
      rw [((pre_5 L xs ja hj (nI s) k).2 s hs rfl).1, if_pos hk, if_neg (by omega), k_5_31]
      simp only [Hcl, p1, p2, p3, p4, HF1, HF2, gd_t, decide_true, Bool.and_self, HQ, HZ, dS hw h2, price', bI_s, f16, Rs d h2, sk', bR_s, cc_0_68_1, rem, bV_s, cc_0_72_1, k1, ph0 hw hdn']
      by_cases g : n' = 0
      · rw [if_pos g, k_5_75, k_5_84, hr, if_pos g]
      · have tg4 : tg B (d.ph n') = 4 := jb.2.2.2.1 _ (by rw [hdn']; exact g)
        rw [if_neg g, k_5_79]
        have env : (cCls (cStl (m.kd s) (cRem c1 n') s n T) s (nI s) (prT (c.he s)) (nI (mTrn mF s n).sp) (nI (potV B (cStl (m.kd s) (cRem c1 n') s n T) s))).nv = c.nv := by
          show (cStl (m.kd s) (cRem c1 n') s n T).nv = c.nv
          rw [(HcStl (m.kd s) (cRem c1 n') s n T).2.1]
          unfold cRem
          rw [if_neg g]
          exact q15
        simp only [Hcl, p1, p2, p3, p4, HF1, HF2, gd_t, decide_true, Bool.and_self, HQ, HZ, tg4, HF4, Rn d hdn' g, env, k_5_84]
        rw [hr, if_neg g]
    refine Ans.of L xs hcA e0 jb.2.1 (fun h hh => ?_)
    obtain ⟨b1, b2, b3, b4⟩ := id hh
    obtain ⟨q, hq⟩ := hm h hh
    have trn := m_73 L xs hh (mF.sW q) (S := ind T (s + 1)) (z := z) hBP hs40 (by show mF.kd s ≤ 5; omega) (n := n) (by
      rcases lzn with g | g
      · omega
      · exact jt.2.1.2 n g) (fun g1 g2 => by
      have g1 : mF.kd s = 1 := g1
      have κ0 : s + 1 ≠ 0 := Nat.succ_ne_zero s
      have lv : ∀ a, ind T (s + 1) a ≠ 0 → T a = s + 1 := fun a ha => (ind_ne κ0 a).mp ha
      have hWi : WF c.P (ind T (s + 1)) z := WF.ind (l := c.P.1) (r := c.P.2.1) (u := c.P.2.2) (u' := c.P.2.2) jt.1 κ0 (fun _ _ => rfl)
      refine ⟨hWi.pt (fun a ha => ?_), fun a ha => jt.2.1.2 a (by rw [lv a ha]; exact κ0), by rw [ind_eq (gmem g2)]; exact κ0⟩
      show mF.P.1 a = _ ∧ mF.P.2.1 a = _ ∧ mF.P.2.2 a = _
      rw [ePm]
      have p := jp.2 a (by rw [lv a ha]; exact κ0)
      exact ⟨p.1, p.2.1, p.2.2.2 (by rw [lv a ha, Nat.add_sub_cancel]; exact hk)⟩)
    rw [mTrn_sW] at trn
    obtain ⟨q3, hq3⟩ := clsq L xs s2 s3 hsT (prT (c.he s)) (c.st s) (by rw [hTr.2.2.2.2.2.2.2.2.1, est]; exact (ja.1 s hs).2) q h hh
    refine ⟨((mAct (mTrn mF s n) s (prT (c.he s)) (nI (potV B (cStl (m.kd s) (cRem c1 n') s n T) s))).sW q3), ?_, ?_⟩
    · rw [((pre_5 L xs ja hj (nI s) k).2 s hs rfl).2 h hh, if_pos hk, if_neg (by omega), hq, k_76_118]
      simp only [Hml, b1, b2, b3, b4, HF10, gd_t, decide_true, Bool.and_self, HQ, HZ, cc_9_169_10, trn, bV_s, cc_9_172_10, hq3]
    · exact Inv.up (Inv.act s2 s3 hsT _ _ q3 jq (by rw [hTr.2.2.2.2.2.2.2.1, eN]) (by omega) (by rw [rwP_trn, erw]; omega))
  by_cases met : n ≠ 0 ∧ c.ck n = k
  · have tn : T n ≠ 0 := lzn.resolve_left met.1
    have v1 := hj.f1 tn
    have eR1 : cRem c1 n = (c1.sfk k).sfv (m.it (m.fV n)).toInt32 := by
      unfold cRem
      rw [if_neg met.1, q12, q14, q16, v1.1, if_neg v1.2.1, v1.2.2.2.2.1, met.2]
    refine fin (((m.ssp g2).sfk k).sfv (m.it (m.fV n)).toInt32) n (nI (V n).length) 1 (by rw [if_pos met]) ?_ ?_ rfl rfl rfl rfl rfl rfl jp.1 rfl (fun _ => by rw [v1.1]; exact v1.2.1) (by rw [if_neg met.1, (jv n tn).2.2.2.2.2.1]) (fun h hh => ?_)
    · rw [eR1]
      show JJ _ (cLz (m.kd s) _ s) d B T z V R FN FI ow
      rw [cLz_fkv]
      exact (hj1.ssp g2).fkv _ _ _ _
    · rw [eR1]
      exact JM.of ja hN hs q1 q2 rfl rfl rfl (by show g2 ≤ 100000; omega) ⟨rfl, rfl, by show c1.E = m.E; rw [q5]; exact f3, by show m.se ≤ m.N + 1; omega, by show c1.cn ≤ m.N + 1; rw [q6]; omega⟩ q7 rfl q8 q9 q10 q11 rfl rfl rfl rfl
    · obtain ⟨q, hq⟩ := mpre h hh
      rw [if_pos met] at hq
      exact ⟨q, hq⟩
  · refine fin (m.ssp g2) 0 0 0 (by rw [if_neg met]) ?_ ?_ rfl rfl rfl rfl rfl rfl jp.1 rfl (fun g => absurd rfl g) (by rw [if_pos rfl]) (fun h hh => ?_)
    · exact hj1.ssp g2
    · exact JM.of ja hN hs q1 q2 rfl rfl rfl (by show g2 ≤ 100000; omega) ⟨by show c1.fk = m.fk; rw [q3]; exact f1, by show c1.fv = m.fv; rw [q4]; exact f2, by show c1.E = m.E; rw [q5]; exact f3, by show m.se ≤ m.N + 1; omega, by show c1.cn ≤ m.N + 1; rw [q6]; omega⟩ q7 rfl q8 q9 q10 q11 rfl rfl rfl rfl
    · obtain ⟨q, hq⟩ := mpre h hh
      rw [if_neg met] at hq
      exact ⟨q, hq⟩
theorem q_find {i : Nat} {B : AH} {m : MS} {c : CS} {d : DS} (hI : Inv i B m c d) (a : Int32) (k : Int64) : Ans L xs i B m c d 5 76 [.int a, .long k] := by
  obtain ⟨e0, ja, jq, T, z, V, R, FN, FI, ow, hj⟩ := id hI
  have pp := pre_5 L xs ja hj a k
  rcases st_of hj.K.1 a with ha | ⟨s, hs, rfl⟩
  · exact Ans.of L xs (pp.1 ha).1 e0 hj.1.2.1 (fun h hh => ⟨m, (pp.1 ha).2 h hh, hI.stay⟩)
  · obtain ⟨x1, x2⟩ := pp.2 s hs rfl
    by_cases hk : m.kd s ≤ 1
    · by_cases hN : m.N = 20000
      · rw [if_pos hk, if_pos hN] at x1
        exact Ans.of L xs x1 e0 hj.1.2.1 (fun h hh => ⟨m, by rw [x2 h hh, if_pos hk, if_pos hN], hI.stay⟩)
      · exact find_go L xs hI hs hk (by have := ja.2.2.1.2.1; omega) k
    · rw [if_neg hk] at x1
      exact Ans.of L xs x1 e0 hj.1.2.1 (fun h hh => ⟨m, by rw [x2 h hh, if_neg hk], hI.stay⟩)
end Fnd2
