-- split
theorem JJ.pus {m : MS} {c : CS} {d : DS} {B : AH} {T z : Nat → Nat} {V R : Nat → List Nat} {FN FI : List Nat} {ow : Nat → Nat} (hj : JJ m c d B T z V R FN FI ow) (a : Nat → Int64) (b : Nat → Int32) : JJ (m.spu a) (c.spu b) d B T z V R FN FI ow := by
  obtain ⟨jb, js, jt, jr, jp, jd, jv, ji, jf, jw, jh, jz, jl⟩ := id hj
  exact ⟨jb, js.cg rfl rfl rfl rfl rfl, jt.cg rfl rfl rfl, jr.cg rfl rfl rfl rfl rfl rfl, jp.cg rfl rfl rfl rfl rfl, jd, jv.cg rfl rfl rfl rfl rfl rfl rfl rfl rfl, ji.cg rfl rfl rfl rfl, jf.cg rfl rfl rfl, jw.cg rfl rfl rfl rfl rfl rfl rfl rfl rfl, jh.cg rfl rfl rfl rfl rfl, jz.cg rfl rfl rfl rfl rfl rfl rfl rfl, jl.cg rfl rfl rfl rfl rfl rfl rfl rfl⟩
section Spq
variable (L : Nat) (xs : Nat → Int32)
theorem mAct_pu (m : MS) {s t : Nat} (st : s ≠ t) (price pot : Int32) (P : Int64) : (mAct m s price pot).spu (u1 (u1 (mAct m s price pot).pu t P) s ((mAct m s price pot).pu s - P)) = mAct (m.spu (u1 (u1 m.pu t P) s (m.pu s - P))) s price pot := by
  have e1 : mAct (m.spu (u1 (u1 m.pu t P) s (m.pu s - P))) s price pot = (mAct m s price pot).spu (u1 (u1 (u1 m.pu t P) s (m.pu s - P)) s ((u1 (u1 m.pu t P) s (m.pu s - P)) s + (price - nI m.sp).toInt64)) := rfl
  rw [e1]
  have e2 : (mAct m s price pot).pu = u1 m.pu s (m.pu s + (price - nI m.sp).toInt64) := rfl
  congr 1
  rw [e2, u1_s, u1_s, u1_u1, u1_cm _ _ _ st, u1_u1]
  congr 1
  generalize (price - nI m.sp).toInt64 = x
  generalize m.pu s = y
  rw [Int64.sub_eq_add_neg, Int64.sub_eq_add_neg, Int64.add_assoc, Int64.add_assoc, Int64.add_comm x]
set_option maxHeartbeats 8000000 in
theorem split_go {i : Nat} {B : AH} {m : MS} {c : CS} {d : DS} (hI : Inv i B m c d) {s : Nat} (hs : s < m.K) (ks : m.kd s = 1) (hK40 : m.K < 40) (hN : m.N < 20000) (k : Int64)
    (cpre : XM L xs 9 [.ref 1, .int (nI s), .long k] (cl B d c) = X L xs 9 40 [.ref 1, .int (nI s), .long k, .null, .ref (d.sa (s + 1)), .null, .null, .null, .null] [] (cl B d c))
    (mpre : ∀ h, MB h → XM L xs 86 [.ref 8, .int (nI s), .long k] (ml h m) = X L xs 86 45 [.ref 8, .int (nI s), .long k, .null, .null, .null, .null, .null, .null] [] (ml h m)) : Ans L xs i B m c d 9 86 [.int (nI s), .long k] := by
  obtain ⟨e0, ja, jq, T, z, V, R, FN, FI, ow, hj⟩ := id hI
  obtain ⟨jb, js, jt, jr, jp, jd, jv, ji, jf, jw, jh, jz, jl⟩ := id hj
  obtain ⟨p1, p2, p3, p4⟩ := id jb.1
  obtain ⟨h1, h2, h3, h4, h5, h6⟩ := hj.kin hs
  have hw := jb.2.2.2.2.2
  have h32 := jb.2.2.1.1
  have hs40 : s < 40 := by omega
  have hs31 : s < 2 ^ 31 := by omega
  have κ0 : s + 1 ≠ 0 := Nat.succ_ne_zero s
  have hk : m.kd s ≤ 1 := by omega
  have er := ((jr s hs).1 (by omega)).1
  have hzr := hj.zle (hj.rz hs)
  have ehe := hj.he hs (by omega)
  have ts : tg B (d.sa (s + 1)) = 7 := by rw [h6, ks]; rfl
  have f16 : hasF (tg B (d.sa (s + 1))) 16 = true := by rw [ts]; rfl
  have f14 : hasF (tg B (d.sa (s + 1))) 14 = true := by rw [ts]; rfl
  obtain ⟨p, hF⟩ := nwT_f B (k := 1) (by decide)
  obtain ⟨⟨x1, x2, x3, x4, x5⟩, -, -⟩ := id hF
  have xs1 : sl (nwT B 1) = sl B + 10 := rfl
  have eB1 := nwT_ml h32 m 1
  rw [e0] at eB1
  have ecl := nwT_cl jb.2.2.1 c 1
  have e170 := c170 L xs (cl B d c)
  rw [ecl] at e170
  generalize nwT B 1 = B1 at *
  have jb1 := x1.JB jb
  have hjB := hj.ext x1
  obtain ⟨r1, r2, r3, r4⟩ := id jb1.1
  have tsB : tg B1 (d.sa (s + 1)) = 7 := by rw [(x1.2 _ (jb.2.2.1.2.2.2 _ (by rw [h2]; exact κ0))).1]; exact ts
  have egB := gB_cg (ky := m.ky) (ky' := c.ck) (P := m.P) jt.1 (fun a ha => ⟨(jp.2 a ha).1, (jp.2 a ha).2.1, (jp.2 a ha).2.2.1⟩) k false 20003 (c.ro s) 0 0 (hj.rz hs)
  have gle := gB_le (ky := c.ck) (P := c.P) k false 20003 (c.ro s) 0 0
  have gm := gB_mem (ky := c.ck) jt.1 k false (Nat.succ_ne_zero s) 20003 (c.ro s) 0 0 (fun q => ((jr s hs).2.2.1 q).1) (fun q => absurd rfl q) (fun q => absurd rfl q)
  have gn0 : c.ro s ≠ 0 → (gB c.ck c.P k false 20003 (c.ro s) 0 0).1 ≠ 0 := fun q => gB_n0 k false 20002 q
  have c164' := fun (H : AH) => c164 L xs (b := B1) hw jb1.2.2.2.1 h2 (Or.inr tsB) c jt.1 (fun x hx => hj.hD x (Or.inr hx)) k false (F := 20003) (fun x hx => by have := hj.zle hx; omega) (hj.rz hs) (H := H)
  generalize hn : (gB c.ck c.P k false 20003 (c.ro s) 0 0).1 = n at gm c164' gn0
  generalize hg : (gB c.ck c.P k false 20003 (c.ro s) 0 0).2.2 = g2 at gle c164'
  generalize hbn : (gB c.ck c.P k false 20003 (c.ro s) 0 0).2.1 = n' at gm c164'
  obtain ⟨gmem, gmem'⟩ := gm
  generalize hc1 : cSt c s g2 = c1 at c164'
  have e1 : c1.pu = c.pu ∧ c1.st = u1 c.st s (c.st s + nI g2) ∧ c1.fk = c.fk ∧ c1.fv = c.fv ∧ c1.E = c.E ∧ c1.cn = c.cn ∧ c1.N = c.N ∧ c1.rO = c.rO ∧ c1.rP = c.rP ∧ c1.rT = c.rT ∧ c1.rQ = c.rQ ∧ c1.ro = c.ro := by
    rw [← hc1]
    exact ⟨rfl, rfl, rfl, rfl, rfl, rfl, rfl, rfl, rfl, rfl, rfl, rfl⟩
  have hj1 : JJ m (cLz (m.kd s) c1 s) d B T z V R FN FI ow := by
    rw [← hc1]
    exact JJ.lz (hj.sst (u1 c.st s (c.st s + nI g2))) hs
  obtain ⟨q1, q2, q3, q4, q5, q6, q7, q8, q9, q10, q11, q12⟩ := e1
  have lzn : LZ T n := by
    by_cases n0 : n = 0
    · exact Or.inl n0
    · exact Or.inr (by rw [gmem n0]; exact Nat.succ_ne_zero s)
  have nb : n ≤ 20002 := by
    rcases lzn with q | q
    · omega
    · exact jt.2.1.2 n q
  obtain ⟨f1, f2, f3, f4, f5⟩ := ja.2.1
  have price := c158 L xs h2 f14 c (by omega)
  -- goBeside and the turning
  obtain ⟨mF, hmF⟩ : ∃ x, x = (m.ssp g2).sbs n' := ⟨_, rfl⟩
  have hMF : JM mF c1 s := by
    rw [hmF]
    exact JM.of ja hN hs q1 q2 rfl rfl rfl (by show g2 ≤ 100000; omega) ⟨by show c1.fk = m.fk; rw [q3]; exact f1, by show c1.fv = m.fv; rw [q4]; exact f2, by show c1.E = m.E; rw [q5]; exact f3, by show m.se ≤ m.N + 1; omega, by show c1.cn ≤ m.N + 1; rw [q6]; omega⟩ q7 rfl q8 q9 q10 q11 rfl rfl rfl rfl
  have hjF : JJ mF (cLz (mF.kd s) c1 s) d B T z V R FN FI ow := by
    rw [hmF]
    exact (hj1.ssp g2).sbs n'
  have gF : mF.sp = g2 ∧ mF.K = m.K ∧ mF.kd = m.kd ∧ mF.st = m.st ∧ mF.N = m.N ∧ rwP mF = rwP m ∧ mF.P = m.P := by
    rw [hmF]
    exact ⟨rfl, rfl, rfl, rfl, rfl, rfl, rfl⟩
  obtain ⟨F1, F2, F3, F4, F5, F6, F7⟩ := gF
  have hsF : s < mF.K := by rw [F2]; exact hs
  have hkF : mF.kd s ≤ 1 := by rw [F3]; exact hk
  obtain ⟨-, ⟨z2, s2⟩, s3, s4, s5⟩ := stl_ok L xs hjF hsF hkF gmem hMF (by rw [F1]; omega)
  obtain ⟨v1, -⟩ := stl_ok L xs (hjF.ext x1) hsF hkF gmem hMF (by rw [F1]; omega)
  have v1 := v1 m
  rw [← eB1] at v1
  rw [F3] at s2 s3 s5 v1
  have hTr := HmTrn mF s n
  have hSt := HcStl (m.kd s) c1 s n T
  have hSro : n = 0 → (cStl (m.kd s) c1 s n T).ro = c1.ro := fun n0 => by
    unfold cStl
    rw [if_pos ks, if_pos n0]
    rfl
  have trn : ∀ h, MB h → ∀ q, XM L xs 73 [.ref 8, .int (nI s), .int (en n)] (ml h (mF.sW q)) = some (ml h ((mTrn mF s n).sW q), none) := fun h hh q => by
    have trn := m_73 L xs hh (mF.sW q) (S := ind T (s + 1)) (z := z) (by show BP mF.P; rw [F7]; exact jp.1) hs40 (by show mF.kd s ≤ 5; omega) (n := n) nb (fun g1 g2 => by
      have lv : ∀ a, ind T (s + 1) a ≠ 0 → T a = s + 1 := fun a ha => (ind_ne κ0 a).mp ha
      have hWi : WF c.P (ind T (s + 1)) z := WF.ind (l := c.P.1) (r := c.P.2.1) (u := c.P.2.2) (u' := c.P.2.2) jt.1 κ0 (fun _ _ => rfl)
      refine ⟨hWi.pt (fun a ha => ?_), fun a ha => jt.2.1.2 a (by rw [lv a ha]; exact κ0), by rw [ind_eq (gmem g2)]; exact κ0⟩
      show mF.P.1 a = _ ∧ mF.P.2.1 a = _ ∧ mF.P.2.2 a = _
      rw [F7]
      have p := jp.2 a (by rw [lv a ha]; exact κ0)
      exact ⟨p.1, p.2.1, p.2.2.2 (by rw [lv a ha, Nat.add_sub_cancel]; exact hk)⟩)
    rw [mTrn_sW] at trn
    exact trn
  have hrwT : rwP (mTrn mF s n) = rwP m := by rw [rwP_trn, F6]
  obtain ⟨mT, hmT⟩ : ∃ x, x = mTrn mF s n := ⟨_, rfl⟩
  rw [← hmT] at s2 s3 s4 hTr trn hrwT
  obtain ⟨cT, hcT⟩ : ∃ x, x = cStl (m.kd s) c1 s n T := ⟨_, rfl⟩
  rw [← hcT] at s2 s3 s5 hSt v1 hSro
  clear hmT hcT
  obtain ⟨τ1, τ2, τ3, τ4, τ5, τ6, τ7, τ8, τ9, τ10, τ11, τ12⟩ := hTr
  have e164 := c164' _ v1
  have e164 : XM L xs 164 [.ref (d.sa (s + 1)), .long k, .int 0] (cl B1 d c) = some (cl B1 d cT, some (.ref (d.ph n'))) := e164
  have hKT : mT.K = m.K := τ7.trans F2
  have hkT : mT.kd = m.kd := τ6.trans F3
  obtain ⟨t, ht⟩ : ∃ t, t = m.K := ⟨_, rfl⟩
  have st : s ≠ t := by omega
  have τ0 : t + 1 ≠ 0 := Nat.succ_ne_zero t
  have hsT : s < mT.K := by rw [hKT]; exact hs
  have hro0 : n = 0 → cT.ro s = 0 := fun n0 => by
    rw [hSro n0, q12]
    rcases Nat.eq_zero_or_pos (c.ro s) with g | g
    · exact g
    · exact absurd n0 (gn0 (by omega))
  have ks1 : m.kd s = 1 := ks
  obtain ⟨B2, d', c5, m5, T2, z', ⟨a1, a2⟩, a3, ⟨a4, a5, a6, a7⟩, a8, hj5, ⟨u1', u2, u3, u4, u5, u6, u7, u8, u9, u10, u11, u12, u13⟩, ⟨w1, w2, w3, w4, w5, w6, w7, w8, w9, w10, w11, w12, w13, w14, w15, w16⟩⟩ := split_mid L xs s2 hsT (by rw [hkT]; exact ks) (hKT.trans ht.symm) (by omega) hF (fun n0 => ⟨gmem n0, s5 ks1 n0⟩) hro0 k
  have eB2 : ml B2 m = B2 := a7 m eB1.symm
  have jb5 := hj5.1
  obtain ⟨o1, o2, o3, o4⟩ := id jb5.1
  have hw' := jb5.2.2.2.2.2
  have hs5 : s < m5.K := by rw [w4]; omega
  have ht5 : t < m5.K := by rw [w4]; omega
  obtain ⟨i1, i2, i3, i4, i5, i6⟩ := hj5.kin hs5
  obtain ⟨l1, l2, l3, l4, l5, l6⟩ := hj5.kin ht5
  have kds : m5.kd s = 1 := by rw [w3, u1_o _ _ st, hkT]; exact ks
  have kdt : m5.kd t = 1 := by rw [w3, u1_s]
  have ts5 : tg B2 (d'.sa (s + 1)) = 7 := by rw [i6, kds]; rfl
  have tt5 : tg B2 (d'.sa (t + 1)) = 7 := by rw [l6, kdt]; rfl
  -- the class's splitOff
  have hdro : d.nid (d.ph (cT.ro s)) = cT.ro s := s2.hD _ (s2.rz hsT)
  have e177 : XM L xs 177 [.ref (d.sa (s + 1)), .long k, .ref (nn B + 1)] (cl B1 d c) = some (cl B2 d' c5, none) := by
    rw [en_177, k_177_0]
    simp only [Hcl, gd_t, decide_true, Bool.and_self, HQ, HZ, dS hw h2, tsB, cc_6_79_7, e164, bR_s, HF7, Rs d h2, ph0 hw hdro]
    rw [← a3]
    by_cases g : cT.ro s = 0
    · rw [if_pos g, if_pos g, k_177_18]
    · rw [if_neg g, if_neg g]
  -- accounts before the purse is shared
  obtain ⟨cv, hcv⟩ : ∃ x, x = cNw c5 t := ⟨_, rfl⟩
  have gv := HcNw c5 t
  rw [← hcv] at gv hj5
  obtain ⟨gvcc, gvvn, gvvx, gvkd, gvro, gvhe, gvvs, gvhy, gvla, gvtl, gvdp, gvpa, gvK, gvar, gvcn, gvlg, gvP, gvck, gvcz, gvl1, gvf1, gvnv, gvpu, gvst, gvfk, gvfv, gvE, gvN, gvrO, gvrP, gvrT, gvrQ⟩ := gv
  have hM5 : JM m5 cv s := by
    obtain ⟨m1, ⟨m2, m3⟩, ⟨n1, n2, n3, n4, n5⟩, ⟨n6, n7, n8, n9, n10, n11⟩, tq, htq⟩ := s3
    refine ⟨fun r hr => ?_, ⟨?_, by rw [w15]; exact m3⟩, ⟨?_, ?_, ?_, ?_, ?_⟩, ⟨?_, ?_, ?_, ?_, ?_, ?_⟩, tq, fun j hj' => ?_⟩
    · rw [gvpu, gvst, u1', u2, w1, w2]
      by_cases g : r = t
      · rw [g, u1_s, u1_s, u1_s, u1_s]
        exact ⟨by decide +kernel, fun _ => by decide +kernel⟩
      · rw [u1_o _ _ g, u1_o _ _ g, u1_o _ _ g, u1_o _ _ g]
        exact m1 r (by rw [w4] at hr; omega)
    · rw [gvst, u2, w2, w15, u1_o _ _ st, u1_o _ _ st]; exact m2
    · rw [gvfk, u5, w7]; exact n1
    · rw [gvfv, u6, w8]; exact n2
    · rw [gvE, u7, w9]; exact n3
    · rw [w16, w10]; exact n4
    · rw [gvcn, u13, w10]; exact n5
    · rw [gvN, u8, w10]; exact n6
    · rw [w10]; exact n7
    · rw [gvrO, u9, w11]; exact n8
    · rw [gvrP, u10, w12]; exact n9
    · rw [gvrT, u11, w13]; exact n10
    · rw [gvrQ, u12, w14]; exact n11
    · rw [w10] at hj'
      rw [w13]
      exact htq j hj'
  have potE : potL m5 z' t = potV B2 cv t := hj5.pot ht5 (by omega)
  obtain ⟨pot, hpot⟩ : ∃ x, x = potV B2 cv t := ⟨_, rfl⟩
  obtain ⟨c7, hc7⟩ : ∃ x, x = cv.spu (u1 (u1 cv.pu t (nI pot)) s (cv.pu s - nI pot)) := ⟨_, rfl⟩
  obtain ⟨m7, hm7⟩ : ∃ x, x = m5.spu (u1 (u1 m5.pu t (nI pot).toInt64) s (m5.pu s - (nI pot).toInt64)) := ⟨_, rfl⟩
  have hj7 : JJ m7 c7 d' B2 T2 z' V (u1 R t []) FN FI ow := by rw [hm7, hc7]; exact hj5.pus _ _
  have g7 : m7.K = m5.K ∧ m7.N = m5.N ∧ m7.st = m5.st ∧ m7.sp = m5.sp ∧ rwP m7 = rwP m5 := by rw [hm7]; exact ⟨rfl, rfl, rfl, rfl, rfl⟩
  have hM7 : JM m7 c7 s := by
    obtain ⟨m1, m2, m3, m4, tq, htq⟩ := hM5
    rw [hm7, hc7]
    refine ⟨fun r hr => ⟨?_, (m1 r hr).2⟩, m2, m3, m4, tq, htq⟩
    show u1 (u1 cv.pu t (nI pot)) s (cv.pu s - nI pot) r = (u1 (u1 m5.pu t (nI pot).toInt64) s (m5.pu s - (nI pot).toInt64) r).toInt32
    by_cases g : r = s
    · rw [g, u1_s, u1_s, Int64.toInt32_sub, Int32.toInt32_toInt64, (m1 s hs5).1]
    · rw [u1_o _ _ g, u1_o _ _ g]
      by_cases g2 : r = t
      · rw [g2, u1_s, u1_s, Int32.toInt32_toInt64]
      · rw [u1_o _ _ g2, u1_o _ _ g2]
        exact (m1 r hr).1
  obtain ⟨y1, y2, y3, y4, y5⟩ := g7
  have hs7 : s < m7.K := by rw [y1]; exact hs5
  have hst7 : c.st s = (m7.st s).toInt32 := by rw [y3, w2, u1_o _ _ st, τ9, F4]; exact (ja.1 s hs).2
  have hst5 : c.st s = (m5.st s).toInt32 := by rw [w2, u1_o _ _ st, τ9, F4]; exact (ja.1 s hs).2
  obtain ⟨pr, hpr⟩ : ∃ x, x = prT (c.he s) := ⟨_, rfl⟩
  have hcl := (cls L xs hj7 hM7 hs7 pr (c.st s) hst7).1
  have epotS : potV B2 c7 s = potV B2 cv s := by rw [hc7]; rfl
  rw [epotS, y4] at hcl
  -- addStructure
  have eK5 : c5.K = t := by
    have := hj.2.1.1
    have e : cT.K = mT.K := s2.2.1.1.symm
    rw [u3, e, hKT, ht]
  obtain ⟨ca, hca⟩ : ∃ x, x = c5.sar (u1 c5.ar t (t + 1)) := ⟨_, rfl⟩
  have potA : potV B2 ca t = pot := by rw [hpot, hca, hcv]; rfl
  have kda : ca.kd t = 1 := by
    have : cv.kd t = 1 := by rw [hcv]; exact l4.trans kdt
    rw [hcv] at this
    rw [hca]; exact this
  have ecp := cpot L xs (b := B2) l2 ca (by rw [kda]; decide) (by rw [kda, tt5]; rfl) (fun q => by rw [kda] at q; omega)
  rw [potA] at ecp
  have yt : d'.sa (t + 1) = nn B + 1 := a1
  have y0 : nn B + 1 ≠ 0 := Nat.succ_ne_zero _
  obtain ⟨c6, hc6⟩ : ∃ x, x = (ca.spu (u1 ca.pu t (nI pot))).sK (t + 1) := ⟨_, rfl⟩
  have e33 : XM L xs 33 [.ref 1, .ref (nn B + 1)] (cl B2 d' c5) = some (cl B2 d' c6, some (.int (nI t))) := by
    rw [en_33, k_33_0]
    simp only [Hcl, o1, o2, o3, o4, HF1, HF2, gd_t, decide_true, Bool.and_self, HQ, HZ, show isA 22 = true from rfl, eK5]
    have e40 : Int32.ofNat 40 = nI 40 := rfl
    rw [e40, if_pos (by rw [(nI_iff (by omega) (by omega)).2]; omega), k_33_17]
    have i10 : ins 10 (tg B2 (nn B + 1)) = some 1 := by rw [← yt, tt5]; rfl
    simp only [Hcl, o1, o2, o3, o4, HF1, HF2, gd_t, decide_true, Bool.and_self, HQ, HZ, inb_nI (show t < 40 by omega) (by decide), nI_clamp (show t < 2 ^ 31 by omega), i10]
    have esR : sR (cl B2 d' c5) 2 t (nn B + 1) = cl B2 d' ca := by rw [← yt, cl_ar, hca]
    rw [esR, k_33_24]
    have h15 : hasF (tg B2 (nn B + 1)) 15 = true := by rw [← yt, tt5]; rfl
    rw [yt] at ecp
    have epu : wI (cl B2 d' ca) 15 (nn B + 1) (nI pot) = cl B2 d' (ca.spu (u1 ca.pu t (nI pot))) := by rw [← yt]; exact cl_pu B2 hw' ca l2 (nI pot)
    simp only [Hcl, gd_t, decide_true, Bool.and_self, HQ, HZ, show decide (nn B + 1 ≠ 0) = true from decide_eq_true y0, ecp, bI_s, h15, epu]
    rw [k_33_32]
    have eK3 : (ca.spu (u1 ca.pu t (nI pot))).K = t := by rw [hca]; exact eK5
    simp only [Hcl, o1, o2, o3, o4, HF1, HF2, gd_t, decide_true, Bool.and_self, HQ, HZ, eK3, nI_1, cl_K]
    rw [k_33_42, ← hc6]
  have e6 : c6.pu s = cv.pu s ∧ c6.pu t = nI pot ∧ c7 = c6.spu (u1 c6.pu s (cv.pu s - nI pot)) := by
    rw [hc7, hc6, hca, hcv]
    exact ⟨u1_o _ _ st, u1_s _ _ _, rfl⟩
  have hrw : rwP m7 = rwP m := by
    rw [y5, ← hrwT]
    unfold rwP
    have eKT : mT.K = t := hKT.trans ht.symm
    rw [w4, eKT, List.range_succ, List.map_append, List.sum_append, w3, w5, w6]
    have e1 : (List.range t).map (fun s => if 4 ≤ u1 mT.kd t 1 s then prow (u1 mT.kd t 1 s) (u1 mT.nu t 0 s) (u1 mT.pl t 0 s) else 0) = (List.range t).map (fun s => if 4 ≤ mT.kd s then prow (mT.kd s) (mT.nu s) (mT.pl s) else 0) := List.map_congr_left (fun s hs => by
      have sn : s ≠ t := by have := List.mem_range.mp hs; omega
      rw [u1_o _ _ sn, u1_o _ _ sn, u1_o _ _ sn])
    rw [e1]
    have e2 : ([t].map (fun s => if 4 ≤ u1 mT.kd t 1 s then prow (u1 mT.kd t 1 s) (u1 mT.nu t 0 s) (u1 mT.pl t 0 s) else 0)).sum = 0 := by
      show (if 4 ≤ u1 mT.kd t 1 t then prow (u1 mT.kd t 1 t) (u1 mT.nu t 0 t) (u1 mT.pl t 0 t) else 0) + 0 = 0
      rw [u1_s, if_neg (by decide)]
    rw [e2, Nat.add_zero]
  have eN7 : m7.N = m.N := by rw [y2, w10, τ8, F5]
  refine Ans.of L xs (B' := B2) (c' := cCls c7 s (nI s) pr (nI m5.sp) (nI (potV B2 cv s))) (d' := d') (r := .int (nI t)) ?_ eB2 jb5.2.1 (fun h hh => ?_)
  · rw [cpre, k_9_40]
    simp only [Hcl, p1, p2, p3, p4, HF1, HF2, gd_t, decide_true, Bool.and_self, HQ, HZ, dS hw h2, ts, cc_0_98_7, price, bI_s, HF7, Rs d h2]
    rw [k_9_57]
    have e170' : XM L xs 170 [.ref (nn B + 1)] (mk (cl B d c) 7 0 10) = some (cl B1 d c, none) := e170
    simp only [Hcl, gd_t, decide_true, Bool.and_self, HQ, HZ, show decide (nn B + 1 ≠ 0) = true from decide_eq_true y0, cc_0_102_0, e170', bV_s, dS hw h2, tsB, cc_0_103_7, e177, o1, cc_0_26_1, e33, bI_s]
    have ts5' : tg B2 (d.sa (s + 1)) = 7 := by rw [← a2]; exact ts5
    have tt5' : tg B2 (nn B + 1) = 7 := by rw [← yt]; exact tt5
    have rp1 : fI (cl B2 d' c6) 15 (d.sa (s + 1)) = c6.pu s := by
      rw [← a2]
      simp only [Rs d' i2]
    have rp2 : fI (cl B2 d' c6) 15 (nn B + 1) = c6.pu t := by
      rw [← yt]
      simp only [Rs d' l2]
    have wp : ∀ v, wI (cl B2 d' c6) 15 (d.sa (s + 1)) v = cl B2 d' (c6.spu (u1 c6.pu s v)) := fun v => by rw [← a2]; exact cl_pu B2 hw' c6 i2 v
    simp only [Hcl, gd_t, decide_true, Bool.and_self, HQ, HZ, ts5', tt5', HF7, rp1, rp2, wp, e6.1, e6.2.1]
    rw [← e6.2.2, k_9_94]
    rw [a2, hpr] at hcl
    simp only [Hcl, o1, o2, o3, o4, HF1, HF2, gd_t, decide_true, Bool.and_self, HQ, HZ, cc_0_72_1, hcl, bV_s, hpr]
  · obtain ⟨b1, b2, b3, b4⟩ := id hh
    obtain ⟨q, hq⟩ := m_64 L xs hh (m.ssp 0) (up := c.P.2.2) (T := T) (z := z) hj.mw jt.2.1 hs40 (by show LZ T (m.rt s); rw [er]; exact hj.rz hs)
    have hq : XM L xs 64 [.ref 8, .int (nI s)] (ml h (m.ssp 0)) = some (ml h ((m.ssp 0).sW q), some (.int (nI (z (m.rt s))))) := hq
    rw [er, ehe] at hq
    have e71 := s_71 L xs (ml h ((m.ssp 0).sW q)) 8 (c.he s) (by omega)
    rw [← hpr] at e71
    have e82 := m_82 L xs hh ((m.ssp 0).sW q) (up := c.P.2.2) (T := T) (z := z) hj.mw jt.2.1 k false hs40 (by show LZ T (m.rt s); rw [er]; exact hj.rz hs)
    have e82 : XM L xs 82 [.ref 8, .int (nI s), .long k, .int 0] (ml h ((m.ssp 0).sW q)) = some (ml h (((m.ssp (0 + (gB m.ky m.P k false 20003 (m.rt s) 0 0).2.2)).sbs (gB m.ky m.P k false 20003 (m.rt s) 0 0).2.1).sW q), some (.int (en (gB m.ky m.P k false 20003 (m.rt s) 0 0).1))) := e82
    rw [er, egB, hn, hg, hbn, Nat.zero_add, ← hmF] at e82
    obtain ⟨q2, e101⟩ := m_101 L xs hh (mT.sW q) (up := cT.P.2.2) (T := T) (z := z2) s2.mw jt.2.1 (show mT.K < 40 by omega) (k := 1) (by decide)
    have e101 : XM L xs 101 [.ref 8, .int (nI 1)] (ml h (mT.sW q)) = some (ml h ((mBeg mT 1 0).sW q2), some (.int (nI mT.K))) := e101
    rw [← nI_1c, hKT, ← ht] at e101
    obtain ⟨l7, l8, hm⟩ := a8 h hh q2 pr
    obtain ⟨q3, e66⟩ := clsq L xs hj5 hM5 hs5 pr (c.st s) hst5 q2 h hh
    obtain ⟨mA, hmA⟩ : ∃ x, x = mAct m5 s pr (nI (potV B2 cv s)) := ⟨_, rfl⟩
    rw [← hmA] at e66
    have gA : mA.P = m5.P ∧ mA.rt = m5.rt ∧ mA.kd = m5.kd := by rw [hmA]; exact ⟨rfl, rfl, rfl⟩
    have lzt : LZ T2 (m5.rt t) := by
      rw [((hj5.2.2.2.1 t ht5).1 (by omega)).1]
      exact hj5.rz ht5
    obtain ⟨q4, e65⟩ := m_65_n L xs hh (mA.sW q3) (up := cv.P.2.2) (T := T2) (z := z') (s := t) (by show WF (mA.P.1, mA.P.2.1, cv.P.2.2) T2 z'; rw [gA.1]; exact hj5.mw) hj5.2.2.1.2.1 (by omega) (by show mA.kd t ≤ 3; rw [gA.2.2]; omega) (by show LZ T2 (mA.rt t); rw [gA.2.1]; exact lzt)
    have ep : ((pdF 20003 (mA.sW q3).P ((mA.sW q3).rt t) 0).map (fun p => gp ((mA.sW q3).kd t) (mA.sW q3).P z' p.1)).sum = pot := by
      show ((pdF 20003 mA.P (mA.rt t) 0).map (fun p => gp (mA.kd t) mA.P z' p.1)).sum = pot
      rw [gA.1, gA.2.1, gA.2.2, hpot, ← potE]
      rfl
    rw [ep] at e65
    have e65 : XM L xs 65 [.ref 8, .int (nI t)] (ml h (mA.sW q3)) = some (ml h (mA.sW q4), some (.int (nI pot))) := e65
    refine ⟨(mAct m7 s pr (nI (potV B2 cv s))).sW q4, ?_, ?_⟩
    · rw [mpre h hh, k_86_45]
      simp only [Hml, b1, b2, b3, b4, HF10, gd_t, decide_true, Bool.and_self, HQ, HZ]
      rw [← nI_0, ml_sp, k_86_50]
      simp only [Hml, b1, b2, b3, b4, HF10, gd_t, decide_true, Bool.and_self, HQ, HZ, cc_9_150_10, hq, bI_s, cc_9_153_10, e71, cc_9_216_10, e82, cc_9_169_10, trn h hh q, bV_s, cc_9_223_10, e101, en_m1 (show n < 2 ^ 31 by omega)]
      rw [show klL Value.null = Value.null from rfl, hm, k_86_218]
      simp only [Hml, b1, b2, b3, b4, HF10, gd_t, decide_true, Bool.and_self, HQ, HZ, cc_9_172_10, e66, bV_s, cc_9_130_10, e65, bI_s, inb_nI (show t < 40 by omega) (by decide), nI_clamp (show t < 2 ^ 31 by omega), ml_pu]
      rw [k_86_239]
      simp only [Hml, b1, b2, b3, b4, HF10, gd_t, decide_true, Bool.and_self, HQ, HZ, inb_nI (show t < 40 by omega) (by decide), nI_clamp (show t < 2 ^ 31 by omega), inb_nI hs40 (by decide), nI_clamp hs31, ml_pu]
      rw [k_86_255]
      have eA := mAct_pu m5 st pr (nI (potV B2 cv s)) (nI pot).toInt64
      rw [← hmA, ← hm7] at eA
      have eF : ((mA.sW q4).spu (u1 (mA.sW q4).pu t (nI pot).toInt64)).spu (u1 ((mA.sW q4).spu (u1 (mA.sW q4).pu t (nI pot).toInt64)).pu s (((mA.sW q4).spu (u1 (mA.sW q4).pu t (nI pot).toInt64)).pu s - ((mA.sW q4).spu (u1 (mA.sW q4).pu t (nI pot).toInt64)).pu t)) = (mAct m7 s pr (nI (potV B2 cv s))).sW q4 := by
        rw [← eA]
        show (mA.spu (u1 (u1 mA.pu t (nI pot).toInt64) s ((u1 mA.pu t (nI pot).toInt64) s - (u1 mA.pu t (nI pot).toInt64) t))).sW q4 = _
        rw [u1_s, u1_o _ _ st]
      rw [eF]
    · have iv := Inv.act hj7 hM7 hs7 pr (nI (potV B2 cv s)) q4 (B0 := B) jq eN7 (by omega) (by rw [hrw]; omega)
      rw [y4] at iv
      exact iv.up
set_option maxHeartbeats 4000000 in
theorem q_split {i : Nat} {B : AH} {m : MS} {c : CS} {d : DS} (hI : Inv i B m c d) (a : Int32) (k : Int64) : Ans L xs i B m c d 9 86 [.int a, .long k] := by
  obtain ⟨e0, ja, jq, T, z, V, R, FN, FI, ow, hj⟩ := id hI
  obtain ⟨jb, js, jt, jr, jp, jd, jv, ji, jf, jw, jh, jz, jl⟩ := id hj
  obtain ⟨p1, p2, p3, p4⟩ := id jb.1
  obtain ⟨n1, n2, n3, n4, n5, n6⟩ := ja.2.2.1
  have hw := jb.2.2.2.2.2
  have hK := hj.K
  have c20 : (20000 : Int32) = nI 20000 := by decide +kernel
  have c40 : (40 : Int32) = nI 40 := by decide +kernel
  rcases st_of hK.1 a with ha | ⟨s, hs, rfl⟩
  · refine Ans.of L xs (B' := B) (c' := c) (d' := d) (r := .int (-1)) ?_ e0 jb.2.1 (fun h hh => ⟨m, ?_, hI.stay⟩)
    · rw [en_9, k_9_0]
      simp only [Hcl, p1, p2, p3, p4, HF1, HF2, gd_t, decide_true, Bool.and_self, HQ, HZ, cc_0_91_1, hj.c27f L xs ha, bR_s, if_true]
      rw [k_9_12]
      simp only [Hcl, p1, p2, p3, p4, HF1, HF2, gd_t, decide_true, Bool.and_self, HQ, HZ, cc_0_47_1, hj.c30f L xs ha, bI_s]
    · obtain ⟨b1, b2, b3, b4⟩ := id hh
      rw [en_86, k_86_0]
      simp only [Hml, b1, b2, b3, b4, HF10, gd_t, decide_true, Bool.and_self, HQ, HZ, cc_9_175_10, m_63_f L xs hh m ha, bI_s, not_true, if_false, k_86_8]
  · obtain ⟨h1, h2, h3, h4, h5, h6⟩ := hj.kin hs
    have hs40 : s < 40 := by omega
    have mpre : ∀ h, MB h → XM L xs 86 [.ref 8, .int (nI s), .long k] (ml h m) = if m.kd s = 1 then X L xs 86 23 [.ref 8, .int (nI s), .long k, .null, .null, .null, .null, .null, .null] [] (ml h m) else some (ml h m, some (.int (-2))) := fun h hh => by
      obtain ⟨b1, b2, b3, b4⟩ := id hh
      rw [en_86, k_86_0]
      simp only [Hml, b1, b2, b3, b4, HF10, gd_t, decide_true, Bool.and_self, HQ, HZ, cc_9_175_10, m_63_t L xs hh m hs hK.1, bI_s, show ¬ (1 : Int32) = 0 from by decide, not_false_eq_true, if_true]
      rw [k_86_10]
      simp only [Hml, b1, b2, b3, b4, HF10, gd_t, decide_true, Bool.and_self, HQ, HZ, inb_nI hs40 (by decide), nI_clamp (show s < 2 ^ 31 by omega)]
      have e1 : nI (m.kd s) = 1 ↔ m.kd s = 1 := by rw [nI_1c, nI_eq (by omega) (by decide)]
      simp only [e1]
      by_cases g : m.kd s = 1
      · rw [if_pos g, if_pos g]
      · rw [if_neg g, if_neg g, k_86_20]
    by_cases ks : m.kd s = 1
    · have cpre : XM L xs 9 [.ref 1, .int (nI s), .long k] (cl B d c) = if m.K < 40 ∧ m.N < 20000 then X L xs 9 40 [.ref 1, .int (nI s), .long k, .null, .ref (d.sa (s + 1)), .null, .null, .null, .null] [] (cl B d c) else some (cl B d c, some (.int (-5))) := by
        rw [en_9, k_9_0]
        simp only [Hcl, p1, p2, p3, p4, HF1, HF2, gd_t, decide_true, Bool.and_self, HQ, HZ, cc_0_91_1, hj.c27 L xs hs, bR_s, ks, if_true, h3, if_false]
        rw [k_9_18]
        simp only [Hcl, p1, p2, p3, p4, HF1, HF2, gd_t, decide_true, Bool.and_self, HQ, HZ]
        have e40 : nI 40 ≤ nI c.K ↔ 40 ≤ c.K := (nI_iff (by omega) (by omega)).1
        rw [c40, show klL Value.null = Value.null from rfl]
        by_cases g : m.K < 40
        · rw [if_neg (fun q => by have := e40.mp q; rw [← js.1] at this; omega), k_9_27]
          simp only [Hcl, p1, p2, p3, p4, HF1, HF2, gd_t, decide_true, Bool.and_self, HQ, HZ, cc_0_51_2, c116 L xs jb.1 d c (by omega), bI_s, n1]
          by_cases g2 : m.N = 20000
          · rw [decide_eq_true g2, if_neg (show ¬ bI1 true = 0 from by decide), k_9_37, if_neg (by omega)]
          · rw [decide_eq_false g2, if_pos (show bI1 false = 0 from rfl), if_pos ⟨g, by omega⟩]
        · rw [if_pos (e40.mpr (by rw [← js.1]; omega)), k_9_37, if_neg (fun q => g q.1)]
      have mpre2 : ∀ h, MB h → XM L xs 86 [.ref 8, .int (nI s), .long k] (ml h m) = if m.K < 40 ∧ m.N < 20000 then X L xs 86 45 [.ref 8, .int (nI s), .long k, .null, .null, .null, .null, .null, .null] [] (ml h m) else some (ml h m, some (.int (-5))) := fun h hh => by
        obtain ⟨b1, b2, b3, b4⟩ := id hh
        rw [mpre h hh, if_pos ks, k_86_23]
        simp only [Hml, b1, b2, b3, b4, HF10, gd_t, decide_true, Bool.and_self, HQ, HZ, c40, nI_eq (show m.K < 2 ^ 31 by omega) (show 40 < 2 ^ 31 by decide)]
        by_cases g : m.K = 40
        · rw [if_pos g, k_86_42, if_neg (by omega)]
        · rw [if_neg g, k_86_32]
          simp only [Hml, b1, b2, b3, b4, HF10, gd_t, decide_true, Bool.and_self, HQ, HZ, c20, nI_eq (show m.N < 2 ^ 31 by omega) (show 20000 < 2 ^ 31 by decide)]
          by_cases g2 : m.N = 20000
          · rw [if_neg (fun q => q g2), k_86_42, if_neg (by omega)]
          · rw [if_pos g2, if_pos ⟨by omega, by omega⟩]
      by_cases g : m.K < 40 ∧ m.N < 20000
      · rw [if_pos g] at cpre
        exact split_go L xs hI hs ks g.1 g.2 k cpre (fun h hh => by rw [mpre2 h hh, if_pos g])
      · rw [if_neg g] at cpre
        exact Ans.of L xs (B' := B) (c' := c) (d' := d) (r := .int (-5)) cpre e0 jb.2.1 (fun h hh => ⟨m, by rw [mpre2 h hh, if_neg g], hI.stay⟩)
    · refine Ans.of L xs (B' := B) (c' := c) (d' := d) (r := .int (-2)) ?_ e0 jb.2.1 (fun h hh => ⟨m, by rw [mpre h hh, if_neg ks], hI.stay⟩)
      rw [en_9, k_9_0]
      simp only [Hcl, p1, p2, p3, p4, HF1, HF2, gd_t, decide_true, Bool.and_self, HQ, HZ, cc_0_91_1, hj.c27 L xs hs, bR_s, ks, if_false, if_true]
      rw [k_9_12]
      simp only [Hcl, p1, p2, p3, p4, HF1, HF2, gd_t, decide_true, Bool.and_self, HQ, HZ, cc_0_47_1, hj.c30 L xs hs, bI_s]
end Spq
