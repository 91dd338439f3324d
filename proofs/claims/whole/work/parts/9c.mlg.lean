-- meld
theorem i64_add (x y : Int64) : (x + y).toInt32 = x.toInt32 + y.toInt32 := Int64.toInt32_add x y
section Mlg
variable (L : Nat) (xs : Nat → Int32)
set_option maxHeartbeats 4000000 in
theorem meld_go {i : Nat} {B : AH} {m : MS} {c : CS} {d : DS} (hI : Inv i B m c d) {s t : Nat} (hs : s < m.K) (ht : t < m.K) (ks : 2 ≤ m.kd s ∧ m.kd s ≤ 3) (kt : 2 ≤ m.kd t ∧ m.kd t ≤ 3) (st : s ≠ t) (hN : m.N < 20000)
    (cpre : XM L xs 12 [.ref 1, .int (nI s), .int (nI t)] (cl B d c) = X L xs 12 51 [.ref 1, .int (nI s), .int (nI t), .ref (d.sa (s + 1)), .ref (d.sa (t + 1)), .null, .null] [] (cl B d c))
    (mpre : ∀ h, MB h → XM L xs 96 [.ref 8, .int (nI s), .int (nI t)] (ml h m) = X L xs 96 26 [.ref 8, .int (nI s), .int (nI t), .int 0, .null] [] (ml h m)) : Ans L xs i B m c d 12 96 [.int (nI s), .int (nI t)] := by
  obtain ⟨e0, ja, jq, T, z, V, R, FN, FI, ow, hj⟩ := id hI
  obtain ⟨jb, js, jt, jr, jp, jd, jv, ji, jf, jw, jh, jz, jl⟩ := id hj
  obtain ⟨h1, h2, h3, h4, h5, h6⟩ := hj.kin hs
  obtain ⟨t1, t2, t3, t4, t5, t6⟩ := hj.kin ht
  obtain ⟨p1, p2, p3, p4⟩ := id jb.1
  obtain ⟨ja1, ⟨f1, f2, f3, f4, f5⟩, ⟨f6, f7, f8, f9, f10, f11⟩, tq, htq⟩ := id ja
  have hw := jb.2.2.2.2.2
  have hK := hj.K
  have κ0 : s + 1 ≠ 0 := Nat.succ_ne_zero s
  have τ0 : t + 1 ≠ 0 := Nat.succ_ne_zero t
  have ts : tg B (d.sa (s + 1)) = 3 := (hj.tgs hs).2.2.1 ks.1 ks.2
  have tt : tg B (d.sa (t + 1)) = 3 := (hj.tgs ht).2.2.1 kt.1 kt.2
  have hTN : TN (fun a => rl s t (T a)) := ⟨by show rl s t (T 0) = 0; rw [jt.2.1.1, rl_0], fun a ha => jt.2.1.2 a ((rl_n s t _).mp ha)⟩
  have hWQ0 : WF (m.P.1, m.P.2.1, c.P.2.2) (fun a => rl s t (T a)) z := hj.mw.lab (rl_0 s t)
  generalize hQ : ((m.P.1, m.P.2.1, c.P.2.2) : PT) = Q at hWQ0
  have Q1 : Q.1 = m.P.1 := by rw [← hQ]
  have Q2 : Q.2.1 = m.P.2.1 := by rw [← hQ]
  have Q3 : Q.2.2 = c.P.2.2 := by rw [← hQ]
  clear hQ
  have TT : ∀ a, rl s t (T a) = s + 1 → T a ≠ 0 ∧ 2 ≤ m.kd (T a - 1) ∧ (T a = s + 1 ∨ T a = t + 1) := fun a ha => by
    rcases rl_s.mp ha with g | g
    · rw [g, Nat.add_sub_cancel]; exact ⟨κ0, ks.1, Or.inl rfl⟩
    · rw [g, Nat.add_sub_cancel]; exact ⟨τ0, kt.1, Or.inr rfl⟩
  have hro : c.ro s ≠ 0 → T (c.ro s) = s + 1 ∧ c.P.2.2 (c.ro s) = 0 := (jr s hs).2.2.1
  have hrt : c.ro t ≠ 0 → T (c.ro t) = t + 1 ∧ c.P.2.2 (c.ro t) = 0 := (jr t ht).2.2.1
  have ha : c.ro s ≠ 0 → rl s t (T (c.ro s)) = s + 1 ∧ Q.2.2 (c.ro s) = 0 := fun g => by
    rw [Q3]; exact ⟨rl_s.mpr (Or.inl (hro g).1), (hro g).2⟩
  have he : c.ro t ≠ 0 → rl s t (T (c.ro t)) = s + 1 ∧ Q.2.2 (c.ro t) = 0 := fun g => by
    rw [Q3]; exact ⟨rl_s.mpr (Or.inr (hrt g).1), (hrt g).2⟩
  have hne : c.ro s ≠ 0 → c.ro s ≠ c.ro t := fun g e => by
    have := (hro g).1
    rw [e] at g
    rw [e, (hrt g).1] at this
    omega
  have hPe : ∀ a, rl s t (T a) ≠ 0 → c.P.1 a = Q.1 a ∧ c.P.2.1 a = Q.2.1 a := fun a ha => by
    have := jp.2 a ((rl_n s t _).mp ha)
    rw [Q1, Q2]
    exact ⟨this.1.symm, this.2.1.symm⟩
  have hcz : ∀ a, rl s t (T a) = s + 1 → c.cz a = z a := fun a ha => by
    obtain ⟨y1, y2, -⟩ := TT a ha
    exact jz.2.1 a y1 (by omega)
  have hhy : c.hy s + c.hy t = Sm (fun a => rl s t (T a)) (s + 1) (hv Q z) := by
    rw [Sm_two jt.2.1 κ0 τ0 (show s + 1 ≠ t + 1 by omega) κ0 hTN (fun a => rl_s) (hv Q z), (jz.1 s hs).2.2.2 ks.1 ks.2, (jz.1 t ht).2.2.2 kt.1 kt.2]
    have cg : ∀ r, r ≠ 0 → Sm T r (hv c.P z) = Sm T r (hv Q z) := fun r r0 => Sm_congr jt.2.1 r0 (fun a ha => by
      unfold hv
      rw [Q2, (jp.2 a (by rw [ha]; exact r0)).2.1])
    rw [cg _ κ0, cg _ τ0]
  obtain ⟨c1, hc1⟩ : ∃ c1, c1 = c.shy (u1 c.hy s (c.hy s + c.hy t)) := ⟨_, rfl⟩
  have e1 : HpS c c1 ∧ c1.P = c.P ∧ c1.cz = c.cz ∧ c1.st = c.st ∧ c1.hy = u1 c.hy s (c.hy s + c.hy t) := by
    rw [hc1]
    exact ⟨⟨rfl, rfl, rfl, rfl, rfl, rfl, rfl, rfl, rfl, rfl, rfl, rfl, rfl, rfl, rfl, rfl, rfl, rfl, rfl, rfl, rfl, rfl, rfl, rfl, rfl, rfl, rfl, rfl⟩, rfl, rfl, rfl, rfl⟩
  obtain ⟨eS, eP, ecz, est, ehy⟩ := e1
  obtain ⟨W, hWe⟩ : ∃ W, W = mwP (fsM (c1.kd s) c1.ck c1.cc) Q 20002 (c.ro s) (c.ro t) := ⟨_, rfl⟩
  obtain ⟨c3, z', cm, hS, hst, hyo, hys, hWm, czs, czo, hPm, hPu, hqT, hzq, hun, hfr, hza⟩ := cmel L xs hw h2 c1 (by rw [eS.2.2.2.2.2.2.2.1, h4]; omega) hTN hWQ0 κ0 (fun a ha => hj.hD a (ha.elim Or.inl (fun g => Or.inr ((rl_n s t _).mp g)))) (fun a ha => by
      rw [eS.2.1]
      have := jh.2.1 a ((rl_n s t _).mp ha)
      omega) ha he hne (fun a ha => by rw [eP]; exact hPe a ha) (fun a _ _ _ => by rw [eP, Q3]) (fun a ha => by rw [ecz]; exact hcz a ha) (by rw [ehy, u1_s]; exact hhy) hWe
  have hlen : W.1.length ≤ 20002 := by rw [hWe]; exact mwP_len _ _ _ _ _
  have hor : hd W.1 W.2 = c.ro s ∨ hd W.1 W.2 = c.ro t := by rw [hWe]; exact hd_or _ _ 20001 _ _
  generalize hq : hd W.1 W.2 = q at *
  generalize hM : mel Q W.1 W.2 = M at *
  have eUq : q ≠ 0 → c3.P.2.2 q = 0 := fun q0 => by
    rw [hPu, eP]
    rcases hor with g | g
    · rw [g] at q0 ⊢; exact (hro q0).2
    · rw [g] at q0 ⊢; exact (hrt q0).2
  have hPA : ∀ a, rl s t (T a) ≠ 0 → c3.P.1 a = M.1 a ∧ c3.P.2.1 a = M.2.1 a ∧ c3.P.2.2 a = M.2.2 a := fun a ha => by
    obtain ⟨y1, y2, y3⟩ := hPm a ha
    refine ⟨y1, y2, ?_⟩
    by_cases g : a = q
    · have q0 : q ≠ 0 := by rw [← g]; exact jt.1.n0 ((rl_n s t _).mp ha)
      rw [g, eUq q0, (hqT q0).2]
    · exact y3 g
  have hW3 : WF c3.P (fun a => rl s t (T a)) z' := hWm.pt hPA
  have hS := eS.trans hS
  obtain ⟨s1, s2, s3, s4, s5, s6, s7, s8, s9, s10, s11, s12, s13, s14, s15, s16, s17, s18, s19, s20, s21, s22, s23, s24, s25, s26, s27, s28⟩ := hS
  have qb : q ≤ 20002 := by
    by_cases q0 : q = 0
    · omega
    · exact hTN.2 q (by show rl s t (T q) ≠ 0; have := (hqT q0).1; rw [this]; exact κ0)
  have hBP : BP (M.1, M.2.1, m.P.2.2) := BP_mel jp.1 hTN κ0 hWm (fun a ha => by rw [← Q1, ← Q2]; exact ⟨(hfr a ha).1, (hfr a ha).2.1⟩)
  obtain ⟨m2, hm2⟩ : ∃ m2, m2 = ((((m.ssp W.1.length).sP (M.1, M.2.1, m.P.2.2)).srt (u1 (u1 m.rt s q) t 0)).spu (u1 (u1 m.pu s (m.pu s + m.pu t)) t 0)) := ⟨_, rfl⟩
  have em : m2.kd = m.kd ∧ m2.rt = u1 (u1 m.rt s q) t 0 ∧ m2.pl = m.pl ∧ m2.nu = m.nu ∧ m2.ky = m.ky ∧ m2.P.2.2 = m.P.2.2 ∧ m2.cs = m.cs ∧ m2.fV = m.fV ∧ m2.lV = m.lV ∧ m2.it = m.it ∧ m2.nx = m.nx ∧ m2.K = m.K ∧ m2.E = m.E ∧ m2.nm = m.nm ∧ m2.fn = m.fn ∧ m2.im = m.im ∧ m2.fi = m.fi ∧ m2.se = m.se := by
    rw [hm2]
    exact ⟨rfl, rfl, rfl, rfl, rfl, rfl, rfl, rfl, rfl, rfl, rfl, rfl, rfl, rfl, rfl, rfl, rfl, rfl⟩
  have em2 : m2.P.1 = M.1 ∧ m2.P.2.1 = M.2.1 ∧ m2.sp = W.1.length ∧ m2.pu = u1 (u1 m.pu s (m.pu s + m.pu t)) t 0 ∧ m2.st = m.st ∧ m2.N = m.N ∧ m2.fk = m.fk ∧ m2.fv = m.fv ∧ m2.rO = m.rO ∧ m2.rP = m.rP ∧ m2.rT = m.rT ∧ m2.rQ = m.rQ ∧ BP m2.P := by
    rw [hm2]
    exact ⟨rfl, rfl, rfl, rfl, rfl, rfl, rfl, rfl, rfl, rfl, rfl, rfl, hBP⟩
  obtain ⟨u1', u2, u3, u4, u5, u6, u7, u8, u9, u10, u11, u12, u13⟩ := em2
  obtain ⟨c4, hc4⟩ : ∃ c4, c4 = (((c3.sro (u1 (u1 c3.ro s q) t 0)).she (u1 (u1 c3.he s (c3.he s + c3.he t)) t 0)).shy (u1 c3.hy t 0)) := ⟨_, rfl⟩
  obtain ⟨c5, hc5⟩ : ∃ c5, c5 = c4.spu (u1 (u1 c4.pu s (c4.pu s + c4.pu t)) t 0) := ⟨_, rfl⟩
  have c126' := c126 L xs (b := B) hw h2 t2 ts tt st (c := c) (c3 := c3) (q := q) (by rw [← hc1]; exact cm B jb.2.2.2.1 ts)
  rw [← hc4] at c126'
  have c38' := c38 L xs (b := B) hw c4 h2 t2 (by rw [ts]; rfl) (by rw [tt]; rfl)
  rw [← hc5] at c38'
  have e5 : c5.ro = u1 (u1 c.ro s q) t 0 ∧ c5.he = u1 (u1 c.he s (c.he s + c.he t)) t 0 ∧ c5.P = c3.P ∧ c5.cz = c3.cz ∧ c5.hy = u1 c3.hy t 0 ∧ c5.st = c3.st ∧ c5.ck = c.ck ∧ c5.cc = c.cc ∧ c5.nv = c.nv ∧ c5.f1 = c.f1 ∧ c5.l1 = c.l1 ∧ c5.vn = c.vn ∧ c5.vx = c.vx ∧ c5.kd = c.kd ∧ c5.vs = c.vs ∧ c5.la = c.la ∧ c5.tl = c.tl ∧ c5.dp = c.dp ∧ c5.lg = c.lg ∧ c5.pa = c.pa ∧ c5.K = c.K ∧ c5.ar = c.ar ∧ c5.cn = c.cn ∧ c5.E = c.E ∧ c5.pu = u1 (u1 c.pu s (c.pu s + c.pu t)) t 0 ∧ c5.fk = c.fk ∧ c5.fv = c.fv ∧ c5.N = c.N ∧ c5.rO = c.rO ∧ c5.rP = c.rP ∧ c5.rT = c.rT ∧ c5.rQ = c.rQ := by
    rw [hc5, hc4]
    exact ⟨by show u1 (u1 c3.ro s q) t 0 = _; rw [s9], by show u1 (u1 c3.he s (c3.he s + c3.he t)) t 0 = _; rw [s10], rfl, rfl, rfl, rfl, s1, s2, s3, s4, s5, s6, s7, s8, s11, s12, s13, s14, s15, s16, s17, s18, s19, s20, by show u1 (u1 c3.pu s (c3.pu s + c3.pu t)) t 0 = _; rw [s21], s22, s23, s24, s25, s26, s27, s28⟩
  clear hc5
  obtain ⟨v1, v2, v3, v4, v5, v6, v7, v8, v9, v10, v11, v12, v13, v14, v15, v16, v17, v18, v19, v20, v21, v22, v23, v24, v25, v26, v27, v28, v29, v30, v31, v32⟩ := e5
  have hj2 := meld_hp (m := m) (m' := m2) (c := c) (c' := c5) (z' := z') (q := q) hj hs ht ks kt st em
    ⟨v7, v8, v19, v9, v10, v11, v12, v13, v14, v1, v2, v15, v16, v17, v18, v20, v21, v22, v23⟩
    ⟨by rw [v3]; exact hW3, u13, fun a ha => by
      rw [u1', u2, v3, v4]
      obtain ⟨y1, y2, -⟩ := hPA a (by rw [ha]; exact κ0)
      exact ⟨y1.symm, y2.symm, czs a ha⟩, fun a ha => by
      obtain ⟨y1, y2, -⟩ := hfr a ha
      rw [u1', u2, y1, y2, (czo a ha).2, Q1, Q2]
      exact ⟨rfl, rfl, rfl⟩, fun a ha hne => by
      obtain ⟨y1, y2, y3⟩ := hPA a ha
      obtain ⟨w1, w2, w3⟩ := hfr a hne
      obtain ⟨y4, y5⟩ := hPe a ha
      rw [v3, v4, y1, y2, y3, w1, w2, w3, (czo a hne).1, ecz, Q3, y4, y5]
      exact ⟨rfl, rfl, rfl, rfl⟩, fun q0 => ⟨(hqT q0).1, by rw [v3]; exact eUq q0⟩, fun a ha hu => by
      have ha0 : rl s t (T a) ≠ 0 := by rw [ha]; exact κ0
      rw [v3, (hPA a ha0).2.2] at hu
      rcases hun a ha0 hu with g | g
      · exact g
      · exfalso
        rw [Q3] at g
        rcases (TT a ha).2.2 with g2 | g2
        · exact g.2.1 ((jr s hs).2.2.2 a g2 g.1)
        · exact g.2.2 ((jr t ht).2.2.2 a g2 g.1), by
      rw [v5, v3, u1_o _ _ st, hys]
      refine Sm_congr hTN κ0 (fun a ha => ?_)
      have ha : rl s t (T a) = s + 1 := ha
      unfold hv
      rw [(hPA a (by rw [ha]; exact κ0)).2.1], by rw [v5, u1_s], fun r hr1 hr2 => by
      rw [v5, u1_o _ _ hr2, hyo r hr1, ehy, u1_o _ _ hr1]⟩
  have hM2 : JM m2 c5 s := by
    refine ⟨fun r hr => ⟨?_, fun g => ?_⟩, ⟨?_, by omega⟩, ⟨?_, ?_, ?_, ?_, ?_⟩, ⟨?_, ?_, ?_, ?_, ?_, ?_⟩, tq, fun i hi => ?_⟩
    · rw [em.2.2.2.2.2.2.2.2.2.2.2.1] at hr
      rw [v25, u4]
      by_cases g : r = t
      · rw [g, u1_s, u1_s]; rfl
      · rw [u1_o _ _ g, u1_o _ _ g]
        by_cases g2 : r = s
        · rw [g2, u1_s, u1_s, i64_add, (ja1 s hs).1, (ja1 t ht).1]
        · rw [u1_o _ _ g2, u1_o _ _ g2]
          exact (ja1 r hr).1
    · rw [em.2.2.2.2.2.2.2.2.2.2.2.1] at hr
      rw [v6, hst, u1_o _ _ g, est, u5]
      exact (ja1 r hr).2
    · rw [v6, hst, u1_s, est, u5, u3, (ja1 s hs).2]
    · rw [v26, u7]; exact f1
    · rw [v27, u8]; exact f2
    · rw [v24, em.2.2.2.2.2.2.2.2.2.2.2.2.1]; exact f3
    · rw [em.2.2.2.2.2.2.2.2.2.2.2.2.2.2.2.2.2, u6]; omega
    · rw [v23, u6]; omega
    · rw [v28, u6]; exact f6
    · rw [u6]; exact hN
    · rw [v29, u9]; exact f8
    · rw [v30, u10]; exact f9
    · rw [v31, u11]; exact f10
    · rw [v32, u12]; exact f11
    · rw [u6] at hi
      rw [u11]
      exact htq i hi
  have hK2 : m2.K = m.K := em.2.2.2.2.2.2.2.2.2.2.2.1
  have hs2 : s < m2.K := by rw [hK2]; exact hs
  have hst2 : c.st s = (m2.st s).toInt32 := by rw [u5]; exact (ja1 s hs).2
  have hrw : rwP m2 = rwP m := by
    unfold rwP
    rw [hK2, em.1, em.2.2.1, em.2.2.2.1]
  have bds : c.he s ≤ 20000 ∧ c.he t ≤ 20000 := by
    have y1 := hj.zle (hj.rz hs)
    have y2 := hj.zle (hj.rz ht)
    rw [hj.he hs ks.2] at y1
    rw [hj.he ht kt.2] at y2
    exact ⟨y1, y2⟩
  have hcl := (cls L xs hj2 hM2 hs2 (prH (c.he s) (c.he t)) (c.st s) hst2).1
  have hhe5 : c5.he s = c.he s + c.he t := by rw [v2, u1_o _ _ st, u1_s]
  refine Ans.of L xs (B' := B) (c' := cCls c5 s (nI s) (prH (c.he s) (c.he t)) (nI m2.sp) (nI (potV B c5 s))) (d' := d) (r := .int (nI (c.he s + c.he t))) ?_ e0 jb.2.1 (fun h hh => ?_)
  · rw [cpre, k_12_51]
    simp only [Hcl, p1, p2, p3, p4, HF1, HF2, HF3, gd_t, decide_true, Bool.and_self, HQ, HZ, ts, tt, Rs d h2, Rs d t2, cc_0_154_0, s_42 L xs _ (c.he s) (c.he t) (by omega) (by omega), bI_s, dS hw h2, cc_0_157_3, c126', bV_s, cc_0_128_0, c38', cc_0_72_1, hcl]
    rw [show (cCls c5 s (nI s) (prH (c.he s) (c.he t)) (nI m2.sp) (nI (potV B c5 s))).he s = c.he s + c.he t from hhe5]
  · obtain ⟨b1, b2, b3, b4⟩ := id hh
    have hs40 : s < 40 := by omega
    have ht40 : t < 40 := by omega
    have er : m.rt s = c.ro s := ((jr s hs).1 ks.2).1
    have et : m.rt t = c.ro t := ((jr t ht).1 kt.2).1
    obtain ⟨q1, e64⟩ := m_64 L xs hh (m.ssp 0) (up := c.P.2.2) (T := T) (z := z) hj.mw jt.2.1 hs40 (show LZ T (m.rt s) by rw [er]; exact hj.rz hs)
    have e64 : XM L xs 64 [.ref 8, .int (nI s)] (ml h (m.ssp 0)) = some (ml h ((m.ssp 0).sW q1), some (.int (nI (c.he s)))) := by
      rw [← hj.he hs ks.2, ← er]; exact e64
    obtain ⟨q2, e65⟩ := m_64 L xs hh ((m.ssp 0).sW q1) (up := c.P.2.2) (T := T) (z := z) hj.mw jt.2.1 ht40 (show LZ T (m.rt t) by rw [et]; exact hj.rz ht)
    have e65 : XM L xs 64 [.ref 8, .int (nI t)] (ml h ((m.ssp 0).sW q1)) = some (ml h ((m.ssp 0).sW q2), some (.int (nI (c.he t)))) := by
      rw [← hj.he ht kt.2, ← et]; exact e65
    obtain ⟨q3, e90⟩ := mmel L xs hh ((m.ssp 0).sW q2) (Q := Q) (T := fun a => rl s t (T a)) (z := z) hWQ0 Q1 Q2 hTN hs40 (by show m.kd s ≤ 5; omega) (fun a ha => by
        show m.cs a < 2 ^ 31
        have := jh.1 a
        omega) jp.1 κ0 (a := m.rt s) (e := m.rt t) (fun r0 => by rw [er] at r0 ⊢; exact (ha r0).1) (fun r0 => by rw [et] at r0 ⊢; exact (he r0).1) (by rw [er, et]; exact hza) (fs := fsM (c1.kd s) c1.ck c1.cc) (fun a e ha he => by
        show fsM (m.kd s) m.ky m.cs a e = _
        rw [eS.2.2.2.2.2.2.2.1, eS.1, eS.2.1, h4]
        obtain ⟨y1, y2, -⟩ := TT a ha
        obtain ⟨y3, y4, -⟩ := TT e he
        exact fsM_cg (jp.2 a y1).2.2.1 (jp.2 e y3).2.2.1 (jh.2.2.2 a e y1 y3 y2 y4)) (W := W) (by rw [er, et]; exact hWe)
    rw [hq, hM] at e90
    obtain ⟨m3, hm3⟩ : ∃ m3, m3 = ((m.ssp W.1.length).sP (M.1, M.2.1, m.P.2.2)) := ⟨_, rfl⟩
    have e90 : XM L xs 90 [.ref 8, .int (nI s), .int (en (m.rt s)), .int (en (m.rt t))] (ml h ((m.ssp 0).sW q2)) = some (ml h (m3.sW q3), some (.int (en q))) := by
      rw [hm3]
      have ez : (m.ssp 0).sp + W.1.length = W.1.length := Nat.zero_add _
      have ee : (((((m.ssp 0).sW q2).ssp (((m.ssp 0).sW q2).sp + W.1.length)).sP (M.1, M.2.1, ((m.ssp 0).sW q2).P.2.2)).sW q3) = ((m.ssp W.1.length).sP (M.1, M.2.1, m.P.2.2)).sW q3 := by
        show (((m.ssp ((m.ssp 0).sp + W.1.length)).sP (M.1, M.2.1, m.P.2.2)).sW q3) = _
        rw [ez]
      rw [← ee]
      exact e90
    have e3 : m3.rt = m.rt ∧ m3.pu = m.pu ∧ m2 = (m3.srt (u1 (u1 m3.rt s q) t 0)).spu (u1 (u1 m3.pu s (m3.pu s + m3.pu t)) t 0) := by
      rw [hm3]
      exact ⟨rfl, rfl, hm2⟩
    clear hm3
    obtain ⟨q4, e66⟩ := clsq L xs hj2 hM2 hs2 (prH (c.he s) (c.he t)) (c.st s) hst2 q3 h hh
    obtain ⟨q5, e67⟩ := m_64 L xs hh ((mAct m2 s (prH (c.he s) (c.he t)) (nI (potV B c5 s))).sW q4) (up := c5.P.2.2) (T := fun a => rl s t (T a)) (z := z') hj2.mw hTN hs40 (show LZ _ (m2.rt s) by rw [((hj2.2.2.2.1 s hs2).1 (by rw [em.1]; exact ks.2)).1]; exact hj2.rz hs2)
    have e67 : XM L xs 64 [.ref 8, .int (nI s)] (ml h ((mAct m2 s (prH (c.he s) (c.he t)) (nI (potV B c5 s))).sW q4)) = some (ml h ((mAct m2 s (prH (c.he s) (c.he t)) (nI (potV B c5 s))).sW q5), some (.int (nI (c.he s + c.he t)))) := by
      rw [← hhe5, ← hj2.he hs2 (by rw [em.1]; exact ks.2), ← ((hj2.2.2.2.1 s hs2).1 (by rw [em.1]; exact ks.2)).1]
      exact e67
    refine ⟨(mAct m2 s (prH (c.he s) (c.he t)) (nI (potV B c5 s))).sW q5, ?_, (Inv.act hj2 hM2 hs2 _ _ q5 jq u6 (by omega) (by rw [hrw]; omega)).up⟩
    rw [mpre h hh, k_96_26]
    simp only [Hml, b1, b2, b3, b4, HF10, gd_t, decide_true, Bool.and_self, HQ, HZ]
    rw [← nI_0, ml_sp, k_96_31]
    have er2 : ((m.ssp 0).sW q2).rt = m.rt := rfl
    simp only [Hml, b1, b2, b3, b4, HF10, gd_t, decide_true, Bool.and_self, HQ, HZ, cc_9_150_10, e64, e65, bI_s, cc_9_241_0, s_91 L xs _ (c.he s) (c.he t) (show c.he s < 2 ^ 31 by omega) (show c.he t < 2 ^ 31 by omega), inb_nI hs40 (by decide), nI_clamp (show s < 2 ^ 31 by omega), inb_nI ht40 (by decide), nI_clamp (show t < 2 ^ 31 by omega), er2, cc_9_237_10, e90, ml_rt]
    rw [k_96_69]
    simp only [Hml, b1, b2, b3, b4, HF10, gd_t, decide_true, Bool.and_self, HQ, HZ, inb_nI ht40 (by decide), nI_clamp (show t < 2 ^ 31 by omega), ml_rt0]
    rw [k_96_76]
    simp only [Hml, b1, b2, b3, b4, HF10, gd_t, decide_true, Bool.and_self, HQ, HZ, inb_nI hs40 (by decide), nI_clamp (show s < 2 ^ 31 by omega), inb_nI ht40 (by decide), nI_clamp (show t < 2 ^ 31 by omega), ml_pu]
    rw [k_96_91]
    simp only [Hml, b1, b2, b3, b4, HF10, gd_t, decide_true, Bool.and_self, HQ, HZ, inb_nI ht40 (by decide), nI_clamp (show t < 2 ^ 31 by omega), ml_pu]
    rw [k_96_98]
    have eM : ∀ X : MS, X = m2.sW q3 → (gd (decide ((8 : Nat) ≠ 0) && decide (catS [] ≤ 8)) (bV (cfD (XM L xs) 9 172 (tg (ml h X) 8) [.ref 8, .int (nI s), .int (prH (c.he s) (c.he t))] (ml h X)) fun h1 => gd (decide ((8 : Nat) ≠ 0) && decide (catS [] ≤ 8)) (bI (cfD (XM L xs) 9 150 (tg h1 8) [.ref 8, .int (nI s)] h1) fun r2 h2 => some (h2, some (.int r2))))) = some (ml h ((mAct m2 s (prH (c.he s) (c.he t)) (nI (potV B c5 s))).sW q5), some (.int (nI (c.he s + c.he t)))) := by
      intro X hX
      rw [hX]
      simp only [Hml, b1, b2, b3, b4, HF10, gd_t, decide_true, Bool.and_self, HQ, HZ, cc_9_172_10, e66, bV_s, cc_9_150_10, e67, bI_s]
    refine eM _ ?_
    rw [e3.2.2]
    rfl
theorem q_meld {i : Nat} {B : AH} {m : MS} {c : CS} {d : DS} (hI : Inv i B m c d) (a b : Int32) : Ans L xs i B m c d 12 96 [.int a, .int b] := by
  obtain ⟨e0, ja, jq, T, z, V, R, FN, FI, ow, hj⟩ := id hI
  obtain ⟨jb, js, jt, jr, jp, jd, jv, ji, jf, jw, jh, jz, jl⟩ := id hj
  obtain ⟨p1, p2, p3, p4⟩ := id jb.1
  obtain ⟨n1, n2, n3, n4, n5, n6⟩ := ja.2.2.1
  have hw := jb.2.2.2.2.2
  have hK := hj.K
  have c20 : (20000 : Int32) = nI 20000 := by decide +kernel
  have c1 := hj.c31 L xs a b
  have g28 : ∀ b, ∃ y, XM L xs 28 [.ref 1, .int b] (cl B d c) = some (cl B d c, some (.ref y)) := fun b => by
    rcases st_of hK.1 b with hb | ⟨t, ht, rfl⟩
    · exact ⟨_, hj.c28f L xs hb⟩
    · exact ⟨_, hj.c28 L xs ht⟩
  -- refused
  have bad : ∀ r, XM L xs 31 [.ref 1, .int a, .int b] (cl B d c) = some (cl B d c, some (.int r)) → (∀ y1 y2, XM L xs 28 [.ref 1, .int a] (cl B d c) = some (cl B d c, some (.ref y1)) → XM L xs 28 [.ref 1, .int b] (cl B d c) = some (cl B d c, some (.ref y2)) → y1 = 0 ∨ y2 = 0 ∨ (y1 ≠ 0 ∧ tg B y1 = 3 ∧ XM L xs 125 [.ref y1, .ref y2] (cl B d c) = some (cl B d c, some (.int 0)))) → r ≠ 0 → (∀ h, MB h → XM L xs 95 [.ref 8, .int a, .int b] (ml h m) = some (ml h m, some (.int r))) → Ans L xs i B m c d 12 96 [.int a, .int b] := by
    intro r h31 hyy r0 h95
    obtain ⟨y1, hy1⟩ := g28 a
    obtain ⟨y2, hy2⟩ := g28 b
    refine Ans.of L xs (B' := B) (c' := c) (d' := d) (r := .int r) ?_ e0 jb.2.1 (fun h hh => ⟨m, ?_, hI.stay⟩)
    · have fin : ∀ l3 l4 : Nat, X L xs 12 31 [.ref 1, .int a, .int b, .ref l3, .ref l4, .null, .null] [] (cl B d c) = some (cl B d c, some (.int r)) := fun l3 l4 => by
        rw [k_12_31]
        simp only [Hcl, p1, p2, p3, p4, HF1, HF2, gd_t, decide_true, Bool.and_self, HQ, HZ, cc_0_110_1, h31, bI_s]
      rw [en_12, k_12_0]
      simp only [Hcl, p1, p2, p3, p4, HF1, HF2, gd_t, decide_true, Bool.and_self, HQ, HZ, cc_0_132_1, hy1, hy2, bR_s]
      by_cases g1 : y1 = 0
      · rw [if_pos g1, fin]
      · rw [if_neg g1, k_12_17]
        by_cases g2 : y2 = 0
        · rw [if_pos g2, fin]
        · obtain ⟨w1, w2, w3⟩ := ((hyy y1 y2 hy1 hy2).resolve_left g1).resolve_left g2
          rw [if_neg g2, k_12_22]
          simp only [Hcl, gd_t, decide_true, Bool.and_self, HQ, HZ, w2, show decide (y1 ≠ 0) = true from decide_eq_true w1, cc_0_150_3, w3, bI_s]
          rw [if_neg (fun q => q trivial), fin]
    · obtain ⟨b1, b2, b3, b4⟩ := id hh
      rw [en_96, k_96_0]
      simp only [Hml, b1, b2, b3, b4, HF10, gd_t, decide_true, Bool.and_self, HQ, HZ, cc_9_247_10, h95 h hh, bI_s, r0, if_false, k_96_11]
  by_cases inv : (a < 0 ∨ nI m.K ≤ a) ∨ (b < 0 ∨ nI m.K ≤ b)
  · refine bad (-1) (c1.1 inv) (fun y1 y2 g1 g2 => ?_) (by decide) (fun h hh => m_95_f L xs hh m hK.1 inv)
    rcases inv with q | q
    · rw [hj.c28f L xs q] at g1
      exact Or.inl (Value.ref.inj (Option.some.inj (Prod.mk.inj (Option.some.inj g1)).2)).symm
    · rw [hj.c28f L xs q] at g2
      exact Or.inr (Or.inl (Value.ref.inj (Option.some.inj (Prod.mk.inj (Option.some.inj g2)).2)).symm)
  · rcases st_of hK.1 a with ha | ⟨s, hs, ea⟩
    · exact absurd (Or.inl ha) inv
    · rcases st_of hK.1 b with hb | ⟨t, ht, eb⟩
      · exact absurd (Or.inr hb) inv
      · obtain ⟨h1, h2, h3, h4, h5, h6⟩ := hj.kin hs
        obtain ⟨t1, t2, t3, t4, t5, t6⟩ := hj.kin ht
        have h31 := c1.2 s t hs ht ea eb
        subst ea eb
        by_cases g : (m.kd s = 2 ∨ m.kd s = 3) ∧ m.kd s = m.kd t ∧ s ≠ t
        · have ks : 2 ≤ m.kd s ∧ m.kd s ≤ 3 := by omega
          have kt : 2 ≤ m.kd t ∧ m.kd t ≤ 3 := by omega
          have gt : m.kd t = 2 ∨ m.kd t = 3 := by omega
          have ts : tg B (d.sa (s + 1)) = 3 := (hj.tgs hs).2.2.1 ks.1 ks.2
          have tt : tg B (d.sa (t + 1)) = 3 := (hj.tgs ht).2.2.1 kt.1 kt.2
          have h95 := fun h (hh : MB h) => m_95 L xs hh m hK.1 hs ht h5 t5
          have e125 := c125 L xs (b := B) h2 t2 ts tt c (by omega) (by omega)
          rw [h4, t4, decide_eq_true (show s ≠ t ∧ m.kd s = m.kd t from ⟨g.2.2, g.2.1⟩)] at e125
          have cpre : XM L xs 12 [.ref 1, .int (nI s), .int (nI t)] (cl B d c) = X L xs 12 38 [.ref 1, .int (nI s), .int (nI t), .ref (d.sa (s + 1)), .ref (d.sa (t + 1)), .null, .null] [] (cl B d c) := by
            rw [en_12, k_12_0]
            simp only [Hcl, p1, p2, p3, p4, HF1, HF2, gd_t, decide_true, Bool.and_self, HQ, HZ, cc_0_132_1, hj.c28 L xs hs, hj.c28 L xs ht, g.1, gt, if_true, bR_s, h3, if_false]
            rw [k_12_17, if_neg t3, k_12_22]
            simp only [Hcl, gd_t, decide_true, Bool.and_self, HQ, HZ, ts, dS hw h2, cc_0_150_3, e125, bI_s]
            rw [if_pos (show ¬ bI1 true = 0 from by decide)]
          have mpre : ∀ h, MB h → XM L xs 96 [.ref 8, .int (nI s), .int (nI t)] (ml h m) = X L xs 96 13 [.ref 8, .int (nI s), .int (nI t), .int 0, .null] [] (ml h m) := fun h hh => by
            obtain ⟨b1, b2, b3, b4⟩ := id hh
            have e := h95 h hh
            rw [if_pos g] at e
            rw [en_96, k_96_0]
            simp only [Hml, b1, b2, b3, b4, HF10, gd_t, decide_true, Bool.and_self, HQ, HZ, cc_9_247_10, e, bI_s, if_true]
          have e116 := c116 L xs jb.1 d c (by omega)
          rw [n1] at e116
          rw [k_12_38] at cpre
          simp only [Hcl, p1, p2, p3, p4, HF1, HF2, gd_t, decide_true, Bool.and_self, HQ, HZ, cc_0_51_2, e116, bI_s] at cpre
          by_cases g2 : m.N = 20000
          · rw [decide_eq_true g2, if_neg (show ¬ bI1 true = 0 from by decide), k_12_48] at cpre
            refine Ans.of L xs (B' := B) (c' := c) (d' := d) (r := .int (-5)) cpre e0 jb.2.1 (fun h hh => ⟨m, ?_, hI.stay⟩)
            obtain ⟨b1, b2, b3, b4⟩ := id hh
            rw [mpre h hh, k_96_13]
            simp only [Hml, b1, b2, b3, b4, HF10, gd_t, decide_true, Bool.and_self, HQ, HZ, g2, c20, not_true, if_false, k_96_23]
          · rw [decide_eq_false g2, if_pos (show bI1 false = 0 from by decide)] at cpre
            refine meld_go L xs hI hs ht ks kt g.2.2 (by omega) cpre (fun h hh => ?_)
            obtain ⟨b1, b2, b3, b4⟩ := id hh
            rw [mpre h hh, k_96_13]
            simp only [Hml, b1, b2, b3, b4, HF10, gd_t, decide_true, Bool.and_self, HQ, HZ]
            rw [c20, if_pos (by rw [nI_eq (by omega) (by omega)]; exact g2)]
        · refine bad (-2) h31 (fun y1 y2 w1 w2 => ?_) (by decide) (fun h hh => by rw [m_95 L xs hh m hK.1 hs ht h5 t5, if_neg g])
          rw [hj.c28 L xs hs] at w1
          rw [hj.c28 L xs ht] at w2
          have e1 := Value.ref.inj (Option.some.inj (Prod.mk.inj (Option.some.inj w1)).2)
          have e2 := Value.ref.inj (Option.some.inj (Prod.mk.inj (Option.some.inj w2)).2)
          by_cases g1 : m.kd s = 2 ∨ m.kd s = 3
          · by_cases g2 : m.kd t = 2 ∨ m.kd t = 3
            · rw [if_pos g1] at e1
              rw [if_pos g2] at e2
              have ts : tg B (d.sa (s + 1)) = 3 := (hj.tgs hs).2.2.1 (by omega) (by omega)
              have tt : tg B (d.sa (t + 1)) = 3 := (hj.tgs ht).2.2.1 (by omega) (by omega)
              have e125 := c125 L xs (b := B) h2 t2 ts tt c (by omega) (by omega)
              rw [h4, t4, decide_eq_false (show ¬ (s ≠ t ∧ m.kd s = m.kd t) from fun q => g ⟨g1, q.2, q.1⟩)] at e125
              rw [← e1, ← e2]
              exact Or.inr (Or.inr ⟨h3, ts, e125⟩)
            · rw [if_neg g2] at e2
              exact Or.inr (Or.inl e2.symm)
          · rw [if_neg g1] at e1
            exact Or.inl e1.symm
end Mlg
