-- drop: a node goes from a PLAIN tree
section LoseP
variable (L : Nat) (xs : Nat → Int32)
set_option maxHeartbeats 4000000 in
theorem lose_P1 {m : MS} {c : CS} {d : DS} {B : AH} {T z : Nat → Nat} {V R : Nat → List Nat} {FN FI : List Nat} {ow : Nat → Nat} (hj : JJ m c d B T z V R FN FI ow) {s n : Nat} (hs : s < m.K) (k0 : m.kd s = 0) (hn : T n = s + 1) (hM : JM m c s) (hsp : m.sp ≤ 80000) (hnx : m.nx (m.fV n) = 0) (hc : c.P.1 n = 0 ∨ c.P.2.1 n = 0) : LoseOK L xs m c d B R s n := by
  obtain ⟨jb, js, jt, jr, jp, jd, jv, ji, jf, jw, jh, jz, jl⟩ := id hj
  obtain ⟨p1, p2, p3, p4⟩ := id jb.1
  obtain ⟨h1, h2, h3, h4, h5, h6⟩ := hj.kin hs
  have hw := jb.2.2.2.2.2
  have ks : m.kd s ≤ 1 := by omega
  obtain ⟨t, f1, f2, f3, f4, f5, f6, f7, f8, f9, f10, f11, f12, f13, n1, n2⟩ := hj.fst hs ks hn
  have κ0 : s + 1 ≠ 0 := Nat.succ_ne_zero s
  have tn : T n ≠ 0 := by rw [hn]; exact κ0
  have ht : t = [] := f11.mp hnx
  rw [ht] at f1 f6
  have f6 : c.nv n = 1 := f6
  have hK := hj.K
  have hs40 : s < 40 := by omega
  have hdn := hj.hD n (Or.inr tn)
  have ag : ∀ b, T b = s + 1 → m.P.1 b = c.P.1 b ∧ m.P.2.1 b = c.P.2.1 b ∧ m.P.2.2 b = c.P.2.2 b := fun b hb => by
    have p := jp.2 b (by rw [hb]; exact κ0)
    exact ⟨p.1, p.2.1, p.2.2.2 (by rw [hb, Nat.add_sub_cancel]; omega)⟩
  have eRt := ((jr s hs).1 (by omega)).1

  have ts : tg B (d.sa (s + 1)) = 5 := by rw [h6, k0]; rfl
  obtain ⟨ch, hch⟩ : ∃ x, x = oneC c.P n := ⟨_, rfl⟩
  have hc2 : (c.P.1 n = 0 ∧ c.P.2.1 n = ch) ∨ (c.P.2.1 n = 0 ∧ c.P.1 n = ch) := by
    rw [hch]
    unfold oneC
    by_cases l0 : c.P.1 n = 0
    · exact Or.inl ⟨l0, by rw [if_pos l0]⟩
    · exact Or.inr ⟨hc.resolve_left l0, by rw [if_neg l0]⟩
  have hcm : oneC m.P n = ch := by
    rw [hch]
    unfold oneC
    rw [(ag n hn).1, (ag n hn).2.1]
  have chb : ch ≤ 20002 := by
    rw [← hcm]
    unfold oneC
    split
    · exact (jp.1 n).2.1
    · exact (jp.1 n).1
  -- the class
  obtain ⟨cA, hcA⟩ : ∃ x, x = cA1 c s n := ⟨_, rfl⟩
  have gC := HcA1 c s n
  rw [← hcA] at gC
  obtain ⟨gCcc, gCvn, gCvx, gCkd, gCro, gChe, gCvs, gChy, gCla, gCtl, gCdp, gCpa, gCK, gCar, gCcn, gClg, gCP, gCck, gCcz, gCl1, gCf1, gCnv, gCpu, gCst, gCfk, gCfv, gCE, gCN, gCrO, gCrP, gCrT, gCrQ⟩ := gC
  have e144 := c144_1 L xs hw jb.2.2.2.1 h2 ts cA (T := T) (z := z) (by rw [gCP]; exact jt.1) hj.hD tn (by rw [gCP]; exact hc)
  rw [gCP, ← hch] at e144
  have e163 := c163 L xs hw jb.2.2.2.1 jb.2.2.2.2.1 h2 (Or.inl ts) c (n := n) (by omega) hdn (by rw [f2]; exact f5) (by rw [f2]; omega) (by omega) (by omega) f8 (fun _ => f9) (H := cl B d (cPip cA s n ch)) (fun _ => by
    rw [ts, cc_11_58_5, ← e144, hcA]
    rfl)
  rw [if_pos f6] at e163
  obtain ⟨cB, hcB⟩ : ∃ x, x = cPip cA s n ch := ⟨_, rfl⟩
  have gB := HcPip cA s n ch
  rw [← hcB] at gB e163
  obtain ⟨gBcc, gBvn, gBvx, gBkd, gBro, gBhe, gBvs, gBhy, gBla, gBtl, gBdp, gBpa, gBK, gBar, gBcn, gBlg, gBP, gBck, gBcz, gBl1, gBf1, gBnv, gBpu, gBst, gBfk, gBfv, gBE, gBN, gBrO, gBrP, gBrT, gBrQ⟩ := gB
  obtain ⟨cE, hcE⟩ : ∃ x, x = cB.sE (c.E - 1) := ⟨_, rfl⟩
  have gE := HcSE cB (c.E - 1)
  rw [← hcE] at gE
  obtain ⟨gEcc, gEvn, gEvx, gEkd, gEro, gEhe, gEvs, gEhy, gEla, gEtl, gEdp, gEpa, gEK, gEar, gEcn, gElg, gEP, gEck, gEcz, gEl1, gEf1, gEnv, gEpu, gEst, gEfk, gEfv, gEE, gEN, gErO, gErP, gErT, gErQ⟩ := gE
  clear hcA hcB e144
  -- the reference
  obtain ⟨mA, hmA⟩ : ∃ x, x = mA0 m n := ⟨_, rfl⟩
  have gM := HmA0 m n
  rw [← hmA] at gM
  obtain ⟨gMkd, gMrt, gMpl, gMnu, gMcs, gMit, gMnx, gMK, gME, gMnm, gMfn, gMim, gMfi, gMse, gMP, gMky, gMlV, gMfV, gMpu, gMst, gMsp, gMfk, gMfv, gMN, gMrO, gMrP, gMrT, gMrQ⟩ := gM
  obtain ⟨mB, hmB⟩ : ∃ x, x = mTk mA s n ch := ⟨_, rfl⟩
  have gN := HmTk mA s n ch
  rw [← hmB] at gN
  obtain ⟨gNkd, gNrt, gNpl, gNnu, gNcs, gNit, gNnx, gNK, gNE, gNnm, gNfn, gNim, gNfi, gNse, gNP, gNky, gNlV, gNfV, gNpu, gNst, gNsp, gNfk, gNfv, gNN, gNrO, gNrP, gNrT, gNrQ⟩ := gN
  have ref : ∀ h, MB h → ∀ (q : SCT) (pr : Int32) (k : Int64), X L xs 77 121 [.ref 8, .int (nI s), .long k, .null, .int pr, .int (en n), .int 1, .int (en (m.fV n))] [] (ml h (m.sW q)) = X L xs 77 177 [.ref 8, .int (nI s), .long k, .null, .int pr, .int (en n), .int 1, .int (en (m.fV n))] [] (ml h (mB.sW q)) := fun h hh q pr k => by
    obtain ⟨b1, b2, b3, b4⟩ := id hh
    rw [m_77p L xs hh m n1 n2 f3 (by omega) f12 f10 q pr k, if_neg (fun g => g hnx), k_77_152, ← hmA]
    have e80 := m_80a L xs hh (mA.sW q) (s := s) hs40 n1 n2 (by show BP mA.P; rw [gMP]; exact jp.1) (by show mA.P.1 n = 0 ∨ mA.P.2.1 n = 0; rw [gMP, (ag n hn).1, (ag n hn).2.1]; exact hc)
    have eo : oneC (mA.sW q).P n = ch := by show oneC mA.P n = ch; rw [gMP]; exact hcm
    have ew : mTk (mA.sW q) s n ch = mB.sW q := by rw [hmB]; rfl
    rw [eo, ew] at e80
    simp only [Hml, b1, b2, b3, b4, HF10, gd_t, decide_true, Bool.and_self, HQ, HZ, SWq, inb_nI hs40 (by decide), nI_clamp (show s < 2 ^ 31 by omega), gMkd, k0, nI_0]
    rw [if_pos (by decide), k_77_170]
    simp only [Hml, b1, b2, b3, b4, HF10, gd_t, decide_true, Bool.and_self, HQ, HZ, cc_9_200_10, e80, bV_s]
  clear hmA hmB
  have pcu : m.P.2.2 n = c.P.2.2 n := (ag n hn).2.2
  obtain ⟨z', w1, w2, w3⟩ := WF.tk jt.1 jt.2.1 tn hc2
  obtain ⟨r1, r2⟩ := tk_root (ρ := c.ro s) jt.1 κ0 hn hc2 (jr s hs).2.2.1 (jr s hs).2.2.2
  have bpT := BP_tk jp.1 (x := n) chb
  refine ⟨cB, (d.dn n).di (m.fV n), mB, u1 T n 0, z', u1 V n (V n), n :: FN, m.fV n :: FI, fun j => if j = m.fV n then 50000 else if ow j = n then n else ow j, e163, fun c0 => cl_let B d c0 n (m.fV n), ref, ?_, ?_, ?_⟩
  · rw [← hcE]
    refine gone_tr (q := if c.P.2.2 n = 0 then ch else c.ro s) hj hs ks hn hn f1 ⟨gNkd.trans gMkd, ?_, gNpl.trans gMpl, gNnu.trans gMnu, gNcs.trans gMcs, gNit.trans gMit, gNnx.trans gMnx, gNK.trans gMK, gNE.trans gME, gNnm.trans gMnm, gNfn, gNim.trans gMim, gNfi.trans gMfi, gNse.trans gMse⟩ (fun b hb => ?_) (fun g => absurd rfl g) ⟨gEcc.trans (gBcc.trans gCcc), gEvn.trans (gBvn.trans gCvn), gEvx.trans (gBvx.trans gCvx), gEkd.trans (gBkd.trans gCkd), ?_, gEhe.trans (gBhe.trans gChe), gEvs.trans (gBvs.trans gCvs), gEhy.trans (gBhy.trans gChy), gEla.trans (gBla.trans gCla), gEtl.trans (gBtl.trans gCtl), gEdp.trans (gBdp.trans gCdp), gEpa.trans (gBpa.trans gCpa), gEK.trans (gBK.trans gCK), gEar.trans (gBar.trans gCar), gEcn.trans (gBcn.trans gCcn), fun r _ => by rw [gElg, gBlg, gClg]⟩ ⟨?_, ?_, fun b hb => ?_, fun b b0 hb => ?_, ?_, fun b tb hb => ?_, ?_, ?_, fun g => by omega, fun _ b hb => ?_⟩
    · rw [gNrt, gMP, gMrt, pcu]
      by_cases g : c.P.2.2 n = 0
      · rw [if_pos g, if_pos g]
      · rw [if_neg g, if_neg g, ← eRt, u1_id]
    · rw [gNky, gMky, gNfV, gMfV, gNlV, gMlV, gEck, gBck, gCck, gEnv, gBnv, gCnv, gEf1, gBf1, gCf1, gEl1, gBl1, gCl1, u1_o _ _ hb, u1_o _ _ hb, u1_o _ _ hb]
      exact ⟨rfl, rfl, rfl, rfl, rfl, rfl, rfl⟩
    · rw [gEro, gBro, gCro, gCP]
      by_cases g : c.P.2.2 n = 0
      · rw [if_pos g, if_pos g]
      · rw [if_neg g, if_neg g, u1_id]
    · rw [gEP, gBP, gCP]; exact w1
    · rw [gNP, gMP, gMfn]
      intro b
      refine ⟨?_, (bpT b).2⟩
      show u1 (tkP m.P n ch).1 n m.fn b ≤ _
      by_cases g : b = n
      · rw [g, u1_s]; exact f13
      · rw [u1_o _ _ g]; exact (bpT b).1
    · have bn : b ≠ n := fun g => by rw [g, u1_s] at hb; exact κ0 hb.symm
      rw [u1_o _ _ bn] at hb
      obtain ⟨a1, a2, a3⟩ := ag b hb
      rw [gNP, gMP, gEP, gBP, gCP]
      refine ⟨?_, ?_, ?_, fun g => by omega⟩
      · show u1 (tkP m.P n ch).1 n _ b = _
        rw [u1_o _ _ bn, tk_l, tk_l, pcu, a1]
      · show (tkP m.P n ch).2.1 b = _
        rw [tk_r, tk_r, pcu, a1, a2]
      · show (tkP m.P n ch).2.2 b = _
        have b0 := jt.1.n0 (show T b ≠ 0 by rw [hb]; exact κ0)
        rw [tk_u _ _ b0, tk_u _ _ b0, pcu, a3]
    · have bn : b ≠ n := fun g => hb (by rw [g]; exact hn)
      have bp : ¬ (c.P.2.2 n ≠ 0 ∧ b = c.P.2.2 n) := fun q => hb (by rw [q.2, (jt.1.up_lt tn q.1).2]; exact hn)
      have bc : b ≠ ch := fun g => hb (by
        have c0 : ch ≠ 0 := by rw [← g]; exact b0
        rw [g]
        rcases hc2 with ⟨-, q⟩ | ⟨-, q⟩
        · rw [← q] at c0 ⊢; exact ((jt.1.2.2 n tn).2.1 c0).2.trans hn
        · rw [← q] at c0 ⊢; exact ((jt.1.2.2 n tn).1 c0).2.trans hn)
      rw [gNP, gMP]
      refine ⟨?_, ?_, ?_⟩
      · show u1 (tkP m.P n ch).1 n _ b = _
        rw [u1_o _ _ bn, tk_l, pcu, if_neg (fun q => bp ⟨q.1, q.2.1⟩)]
      · show (tkP m.P n ch).2.1 b = _
        rw [tk_r, pcu, if_neg (fun q => bp ⟨q.1, q.2.1⟩)]
      · show (tkP m.P n ch).2.2 b = _
        rw [tk_u _ _ b0, if_neg bc]
    · rw [gNP, gMfn]
      exact u1_s _ _ _
    · obtain ⟨y1, y2, y3⟩ := w3 b (by rw [hn]; exact hb)
      rw [gEP, gBP, gCP, gEcz, gBcz, gCcz]
      exact ⟨y1, y2, y3 (jt.1.n0 tb), rfl, w2 b tb (by rw [hn]; exact hb)⟩
    · rw [gEP, gBP, gCP]; exact r1
    · rw [gEP, gBP, gCP]; exact r2
    · have bn : b ≠ n := fun g => by rw [g, u1_s] at hb; exact κ0 hb.symm
      rw [u1_o _ _ bn] at hb
      have tb : T b ≠ 0 := by rw [hb]; exact κ0
      rw [gEP, gBP, gCP, gEck, gBck, gCck]
      exact OrK.tk jt.1 tn hc2 tb bn (jl.2.2 b tb (by rw [hb, Nat.add_sub_cancel]; exact k0))
  · rw [← hcE]
    refine hM.mv (δ := 0) (gEpu.trans (gBpu.trans gCpu)) ?_ (fun r _ => by rw [gEst, gBst, gCst]) (gNpu.trans gMpu) (gNst.trans gMst) (gNK.trans gMK) (gNsp.trans gMsp) (by rw [gNsp, gMsp]; omega) ⟨gEfk.trans (gBfk.trans gCfk), gEfv.trans (gBfv.trans gCfv), gNfk.trans gMfk, gNfv.trans gMfv, ?_, gNse.trans gMse, gEcn.trans (gBcn.trans gCcn)⟩ (gEN.trans (gBN.trans gCN)) (gNN.trans gMN) (gErO.trans (gBrO.trans gCrO)) (gErP.trans (gBrP.trans gCrP)) (gErT.trans (gBrT.trans gCrT)) (gErQ.trans (gBrQ.trans gCrQ)) (gNrO.trans gMrO) (gNrP.trans gMrP) (gNrT.trans gMrT) (gNrQ.trans gMrQ)
    · rw [gEst, gBst, gCst, nI_0, Int32.add_zero]
    · rw [gEE, gNE, gME, hM.2.2.1.2.2.1]
  · exact ⟨by rw [hM.2.2.1.2.2.1]; exact f10, gBE.trans gCE, gNK.trans gMK, gNkd.trans gMkd, gNN.trans gMN, gNst.trans gMst, gNnu.trans gMnu, gNpl.trans gMpl, fun _ => rfl⟩
set_option maxHeartbeats 4000000 in
theorem lose_P2 {m : MS} {c : CS} {d : DS} {B : AH} {T z : Nat → Nat} {V R : Nat → List Nat} {FN FI : List Nat} {ow : Nat → Nat} (hj : JJ m c d B T z V R FN FI ow) {s n : Nat} (hs : s < m.K) (k0 : m.kd s = 0) (hn : T n = s + 1) (hM : JM m c s) (hsp : m.sp ≤ 70000) (hnx : m.nx (m.fV n) = 0) (hl : c.P.1 n ≠ 0) (hr : c.P.2.1 n ≠ 0) : LoseOK L xs m c d B R s n := by
  obtain ⟨jb, js, jt, jr, jp, jd, jv, ji, jf, jw, jh, jz, jl⟩ := id hj
  obtain ⟨p1, p2, p3, p4⟩ := id jb.1
  obtain ⟨h1, h2, h3, h4, h5, h6⟩ := hj.kin hs
  have hw := jb.2.2.2.2.2
  have ks : m.kd s ≤ 1 := by omega
  obtain ⟨t, f1, f2, f3, f4, f5, f6, f7, f8, f9, f10, f11, f12, f13, n1, n2⟩ := hj.fst hs ks hn
  have κ0 : s + 1 ≠ 0 := Nat.succ_ne_zero s
  have tn : T n ≠ 0 := by rw [hn]; exact κ0
  have ht : t = [] := f11.mp hnx
  rw [ht] at f1 f6
  have f6 : c.nv n = 1 := f6
  have hK := hj.K
  have hs40 : s < 40 := by omega
  have hdn := hj.hD n (Or.inr tn)
  have ag : ∀ b, T b = s + 1 → m.P.1 b = c.P.1 b ∧ m.P.2.1 b = c.P.2.1 b ∧ m.P.2.2 b = c.P.2.2 b := fun b hb => by
    have p := jp.2 b (by rw [hb]; exact κ0)
    exact ⟨p.1, p.2.1, p.2.2.2 (by rw [hb, Nat.add_sub_cancel]; omega)⟩
  have eRt := ((jr s hs).1 (by omega)).1

  have ts : tg B (d.sa (s + 1)) = 5 := by rw [h6, k0]; rfl
  have hO : ∀ a, T a = s + 1 → OrK c.P c.ck a := fun a ha => jl.2.2 a (by rw [ha]; exact κ0) (by rw [ha, Nat.add_sub_cancel]; exact k0)
  obtain ⟨e, he⟩ : ∃ e, e = (lR c.P 20003 (c.P.1 n)).1 := ⟨_, rfl⟩
  obtain ⟨k, hk⟩ : ∃ k, k = (lR c.P 20003 (c.P.1 n)).2 := ⟨_, rfl⟩
  have ek : lR c.P 20003 (c.P.1 n) = (e, k) := by rw [he, hk]
  obtain ⟨te, en', hmv⟩ := OrK.mv jt.1 jt.2.1 κ0 hO hn hl he.symm
  have te0 : T e ≠ 0 := by rw [te]; exact κ0
  have tl : T (c.P.1 n) ≠ 0 := (jt.1.lzl tn).resolve_left hl
  have kb : k ≤ 20003 := by rw [hk]; exact lR_le _ _
  have ren : c.P.2.1 e = 0 := by
    have zl := jt.1.z_le jt.2.1.2 (Or.inr tl)
    have := lR_end jt.1 20003 (c.P.1 n) tl (by omega)
    rw [← he] at this
    exact this
  have emk : lR m.P 20003 (m.P.1 n) = (e, k) := by
    rw [(ag n hn).1, lR_cg (P := m.P) (Q := c.P) jt.1 (fun b hb => ⟨(jp.2 b hb).1, (jp.2 b hb).2.1⟩) 20003 _ tl]
    exact ek
  obtain ⟨ch, hch⟩ : ∃ x, x = c.P.1 e := ⟨_, rfl⟩
  have hc2 : (c.P.1 e = 0 ∧ c.P.2.1 e = ch) ∨ (c.P.2.1 e = 0 ∧ c.P.1 e = ch) := Or.inr ⟨ren, hch.symm⟩
  have hco : oneC c.P e = ch := by
    unfold oneC
    by_cases l0 : c.P.1 e = 0
    · rw [if_pos l0, ren, hch, l0]
    · rw [if_neg l0, hch]
  have hcm : m.P.1 e = ch := by rw [(ag e te).1]; exact hch.symm
  have chb : ch ≤ 20002 := by
    rw [← hcm]
    exact (jp.1 e).1
  -- the class
  obtain ⟨cA, hcA⟩ : ∃ x, x = cA1 c s n := ⟨_, rfl⟩
  have gC := HcA1 c s n
  rw [← hcA] at gC
  obtain ⟨gCcc, gCvn, gCvx, gCkd, gCro, gChe, gCvs, gChy, gCla, gCtl, gCdp, gCpa, gCK, gCar, gCcn, gClg, gCP, gCck, gCcz, gCl1, gCf1, gCnv, gCpu, gCst, gCfk, gCfv, gCE, gCN, gCrO, gCrP, gCrT, gCrQ⟩ := gC
  have e144 := c144_2 L xs hw jb.2.2.2.1 h2 ts cA (T := T) (z := z) (by rw [gCP]; exact jt.1) hj.hD jt.2.1.2 tn (by rw [gCP]; exact hl) (by rw [gCP]; exact hr)
  obtain ⟨cS, hcS⟩ : ∃ x, x = cA.sst (u1 cA.st s (cA.st s + 1 + nI k)) := ⟨_, rfl⟩
  have gS := HcSst cA (u1 cA.st s (cA.st s + 1 + nI k))
  rw [← hcS] at gS
  obtain ⟨gScc, gSvn, gSvx, gSkd, gSro, gShe, gSvs, gShy, gSla, gStl, gSdp, gSpa, gSK, gSar, gScn, gSlg, gSP, gSck, gScz, gSl1, gSf1, gSnv, gSpu, gSst, gSfk, gSfv, gSE, gSN, gSrO, gSrP, gSrT, gSrQ⟩ := gS
  obtain ⟨cV, hcV⟩ : ∃ x, x = cTkv cS n e := ⟨_, rfl⟩
  have gV := HcTkv cS n e
  rw [← hcV] at gV
  obtain ⟨gVcc, gVvn, gVvx, gVkd, gVro, gVhe, gVvs, gVhy, gVla, gVtl, gVdp, gVpa, gVK, gVar, gVcn, gVlg, gVP, gVck, gVcz, gVl1, gVf1, gVnv, gVpu, gVst, gVfk, gVfv, gVE, gVN, gVrO, gVrP, gVrT, gVrQ⟩ := gV
  have ePl : cPl2 20003 cA s n = cPip cV s e ch := by
    unfold cPl2
    show cPip (cTkv (cA.sst (u1 cA.st s (cA.st s + 1 + nI (lR cA.P 20003 (cA.P.1 n)).2))) n (lR cA.P 20003 (cA.P.1 n)).1) s (lR cA.P 20003 (cA.P.1 n)).1 (oneC cA.P (lR cA.P 20003 (cA.P.1 n)).1) = _
    rw [gCP, ek]
    show cPip (cTkv (cA.sst (u1 cA.st s (cA.st s + 1 + nI k))) n e) s e (oneC c.P e) = _
    rw [← hcS, ← hcV, hco]
  rw [ePl] at e144
  have e163 := c163 L xs hw jb.2.2.2.1 jb.2.2.2.2.1 h2 (Or.inl ts) c (n := n) (by omega) hdn (by rw [f2]; exact f5) (by rw [f2]; omega) (by omega) (by omega) f8 (fun _ => f9) (H := cl B d (cPip cV s e ch)) (fun _ => by
    rw [ts, cc_11_58_5, ← e144, hcA]
    rfl)
  rw [if_pos f6] at e163
  obtain ⟨cB, hcB⟩ : ∃ x, x = cPip cV s e ch := ⟨_, rfl⟩
  have gB := HcPip cV s e ch
  rw [← hcB] at gB e163
  obtain ⟨gBcc, gBvn, gBvx, gBkd, gBro, gBhe, gBvs, gBhy, gBla, gBtl, gBdp, gBpa, gBK, gBar, gBcn, gBlg, gBP, gBck, gBcz, gBl1, gBf1, gBnv, gBpu, gBst, gBfk, gBfv, gBE, gBN, gBrO, gBrP, gBrT, gBrQ⟩ := gB
  obtain ⟨cE, hcE⟩ : ∃ x, x = cB.sE (c.E - 1) := ⟨_, rfl⟩
  have gE := HcSE cB (c.E - 1)
  rw [← hcE] at gE
  obtain ⟨gEcc, gEvn, gEvx, gEkd, gEro, gEhe, gEvs, gEhy, gEla, gEtl, gEdp, gEpa, gEK, gEar, gEcn, gElg, gEP, gEck, gEcz, gEl1, gEf1, gEnv, gEpu, gEst, gEfk, gEfv, gEE, gEN, gErO, gErP, gErT, gErQ⟩ := gE
  clear hcA hcB hcS hcV e144 ePl
  -- the reference
  obtain ⟨mA, hmA⟩ : ∃ x, x = mA0 m n := ⟨_, rfl⟩
  have gM := HmA0 m n
  rw [← hmA] at gM
  obtain ⟨gMkd, gMrt, gMpl, gMnu, gMcs, gMit, gMnx, gMK, gME, gMnm, gMfn, gMim, gMfi, gMse, gMP, gMky, gMlV, gMfV, gMpu, gMst, gMsp, gMfk, gMfv, gMN, gMrO, gMrP, gMrT, gMrQ⟩ := gM
  obtain ⟨mV, hmV⟩ : ∃ x, x = mMv mA n e k := ⟨_, rfl⟩
  have gO := HmMv mA n e k
  rw [← hmV] at gO
  obtain ⟨gOkd, gOrt, gOpl, gOnu, gOcs, gOit, gOnx, gOK, gOE, gOnm, gOfn, gOim, gOfi, gOse, gOP, gOky, gOlV, gOfV, gOpu, gOst, gOsp, gOfk, gOfv, gON, gOrO, gOrP, gOrT, gOrQ⟩ := gO
  obtain ⟨mB, hmB⟩ : ∃ x, x = mTk mV s e ch := ⟨_, rfl⟩
  have gN := HmTk mV s e ch
  rw [← hmB] at gN
  obtain ⟨gNkd, gNrt, gNpl, gNnu, gNcs, gNit, gNnx, gNK, gNE, gNnm, gNfn, gNim, gNfi, gNse, gNP, gNky, gNlV, gNfV, gNpu, gNst, gNsp, gNfk, gNfv, gNN, gNrO, gNrP, gNrT, gNrQ⟩ := gN
  have ref : ∀ h, MB h → ∀ (q : SCT) (pr : Int32) (k : Int64), X L xs 77 121 [.ref 8, .int (nI s), .long k, .null, .int pr, .int (en n), .int 1, .int (en (m.fV n))] [] (ml h (m.sW q)) = X L xs 77 177 [.ref 8, .int (nI s), .long k, .null, .int pr, .int (en n), .int 1, .int (en (m.fV n))] [] (ml h (mB.sW q)) := fun h hh q pr key => by
    obtain ⟨b1, b2, b3, b4⟩ := id hh
    rw [m_77p L xs hh m n1 n2 f3 (by omega) f12 f10 q pr key, if_neg (fun g => g hnx), k_77_152, ← hmA]
    have eP : (mA.sW q).P = m.P := gMP
    have e80 := m_80b L xs hh (mA.sW q) (s := s) (n := n) (up := c.P.2.2) (T := T) (z := z) (e := e) (k := k) hs40 (by rw [eP]; exact jp.1) (by rw [eP]; exact hj.mw) jt.2.1 tn (by rw [eP, (ag n hn).1]; exact hl) (by rw [eP, (ag n hn).2.1]; exact hr) (by rw [eP]; exact emk)
    have ew : mTk (mMv (mA.sW q) n e k) s e ((mA.sW q).P.1 e) = mB.sW q := by
      rw [eP, hcm, hmB, hmV]; rfl
    rw [ew] at e80
    simp only [Hml, b1, b2, b3, b4, HF10, gd_t, decide_true, Bool.and_self, HQ, HZ, SWq, inb_nI hs40 (by decide), nI_clamp (show s < 2 ^ 31 by omega), gMkd, k0, nI_0]
    rw [if_pos (by decide), k_77_170]
    simp only [Hml, b1, b2, b3, b4, HF10, gd_t, decide_true, Bool.and_self, HQ, HZ, cc_9_200_10, e80, bV_s]
  clear hmA hmB hmV
  have pcu : m.P.2.2 e = c.P.2.2 e := (ag e te).2.2
  obtain ⟨z', w1, w2, w3⟩ := WF.tk jt.1 jt.2.1 te0 hc2
  obtain ⟨r1, r2⟩ := tk_root (ρ := c.ro s) jt.1 κ0 te hc2 (jr s hs).2.2.1 (jr s hs).2.2.2
  have bpT := BP_tk jp.1 (x := e) chb
  have eNP : mB.P = (u1 (tkP m.P e ch).1 e m.fn, (tkP m.P e ch).2) := by rw [gNP, gOP, gMP, gOfn, gMfn]
  have eEP : cE.P = tkP c.P e ch := by rw [gEP, gBP, gVP, gSP, gCP]
  have eEck : cE.ck = u1 c.ck n (c.ck e) := by rw [gEck, gBck, gVck, gSck, gCck]
  refine ⟨cB, (d.dn e).di (m.fV n), mB, u1 T e 0, z', u1 V n (V e), e :: FN, m.fV n :: FI, fun j => if j = m.fV n then 50000 else if ow j = e then n else ow j, e163, fun c0 => cl_let B d c0 e (m.fV n), ref, ?_, ?_, ?_⟩
  · rw [← hcE]
    refine gone_tr (q := if c.P.2.2 e = 0 then ch else c.ro s) hj hs ks hn te f1 ⟨gNkd.trans (gOkd.trans gMkd), ?_, gNpl.trans (gOpl.trans gMpl), gNnu.trans (gOnu.trans gMnu), gNcs.trans (gOcs.trans gMcs), gNit.trans (gOit.trans gMit), gNnx.trans (gOnx.trans gMnx), gNK.trans (gOK.trans gMK), gNE.trans (gOE.trans gME), gNnm.trans (gOnm.trans gMnm), gNfn, gNim.trans (gOim.trans gMim), gNfi.trans (gOfi.trans gMfi), gNse.trans (gOse.trans gMse)⟩ (fun b hb => ?_) (fun _ => ?_) ⟨gEcc.trans (gBcc.trans (gVcc.trans (gScc.trans gCcc))), gEvn.trans (gBvn.trans (gVvn.trans (gSvn.trans gCvn))), gEvx.trans (gBvx.trans (gVvx.trans (gSvx.trans gCvx))), gEkd.trans (gBkd.trans (gVkd.trans (gSkd.trans gCkd))), ?_, gEhe.trans (gBhe.trans (gVhe.trans (gShe.trans gChe))), gEvs.trans (gBvs.trans (gVvs.trans (gSvs.trans gCvs))), gEhy.trans (gBhy.trans (gVhy.trans (gShy.trans gChy))), gEla.trans (gBla.trans (gVla.trans (gSla.trans gCla))), gEtl.trans (gBtl.trans (gVtl.trans (gStl.trans gCtl))), gEdp.trans (gBdp.trans (gVdp.trans (gSdp.trans gCdp))), gEpa.trans (gBpa.trans (gVpa.trans (gSpa.trans gCpa))), gEK.trans (gBK.trans (gVK.trans (gSK.trans gCK))), gEar.trans (gBar.trans (gVar.trans (gSar.trans gCar))), gEcn.trans (gBcn.trans (gVcn.trans (gScn.trans gCcn))), fun r _ => by rw [gElg, gBlg, gVlg, gSlg, gClg]⟩ ⟨?_, ?_, fun b hb => ?_, fun b b0 hb => ?_, ?_, fun b tb hb => ?_, ?_, ?_, fun g => by omega, fun _ b hb => ?_⟩
    · rw [gNrt, gOP, gMP, gOrt, gMrt, pcu]
      by_cases g : c.P.2.2 e = 0
      · rw [if_pos g, if_pos g]
      · rw [if_neg g, if_neg g, ← eRt, u1_id]
    · rw [gNky, gOky, gMky, gNfV, gOfV, gMfV, gNlV, gOlV, gMlV, eEck, gEnv, gBnv, gVnv, gSnv, gCnv, gEf1, gBf1, gVf1, gSf1, gCf1, gEl1, gBl1, gVl1, gSl1, gCl1]
      simp only [u1_o _ _ hb]
      exact ⟨trivial, trivial, trivial, trivial, trivial, trivial, trivial⟩
    · rw [gNky, gOky, gMky, gNfV, gOfV, gMfV, gNlV, gOlV, gMlV, eEck, gEnv, gBnv, gVnv, gSnv, gCnv, gEf1, gBf1, gVf1, gSf1, gCf1, gEl1, gBl1, gVl1, gSl1, gCl1]
      simp only [u1_s, u1_o _ _ en']
      exact ⟨trivial, trivial, trivial, trivial, trivial, trivial, trivial⟩
    · rw [gEro, gBro, gVro, gSro, gCro, gVP, gSP, gCP]
      by_cases g : c.P.2.2 e = 0
      · rw [if_pos g, if_pos g]
      · rw [if_neg g, if_neg g, u1_id]
    · rw [eEP]; exact w1
    · rw [eNP]
      intro b
      refine ⟨?_, (bpT b).2⟩
      show u1 (tkP m.P e ch).1 e m.fn b ≤ _
      by_cases g : b = e
      · rw [g, u1_s]; exact f13
      · rw [u1_o _ _ g]; exact (bpT b).1
    · have bn : b ≠ e := fun g => by rw [g, u1_s] at hb; exact κ0 hb.symm
      rw [u1_o _ _ bn] at hb
      obtain ⟨a1, a2, a3⟩ := ag b hb
      rw [eNP, eEP]
      refine ⟨?_, ?_, ?_, fun g => by omega⟩
      · show u1 (tkP m.P e ch).1 e _ b = _
        rw [u1_o _ _ bn, tk_l, tk_l, pcu, a1]
      · show (tkP m.P e ch).2.1 b = _
        rw [tk_r, tk_r, pcu, a1, a2]
      · show (tkP m.P e ch).2.2 b = _
        have b0 := jt.1.n0 (show T b ≠ 0 by rw [hb]; exact κ0)
        rw [tk_u _ _ b0, tk_u _ _ b0, pcu, a3]
    · have bn : b ≠ e := fun g => hb (by rw [g]; exact te)
      have bp : ¬ (c.P.2.2 e ≠ 0 ∧ b = c.P.2.2 e) := fun q => hb (by rw [q.2, (jt.1.up_lt te0 q.1).2]; exact te)
      have bc : b ≠ ch := fun g => hb (by
        have c0 : ch ≠ 0 := by rw [← g]; exact b0
        rw [g, hch] at *
        exact ((jt.1.2.2 e te0).1 c0).2.trans te)
      rw [eNP]
      refine ⟨?_, ?_, ?_⟩
      · show u1 (tkP m.P e ch).1 e _ b = _
        rw [u1_o _ _ bn, tk_l, pcu, if_neg (fun q => bp ⟨q.1, q.2.1⟩)]
      · show (tkP m.P e ch).2.1 b = _
        rw [tk_r, pcu, if_neg (fun q => bp ⟨q.1, q.2.1⟩)]
      · show (tkP m.P e ch).2.2 b = _
        rw [tk_u _ _ b0, if_neg bc]
    · rw [eNP]
      exact u1_s _ _ _
    · obtain ⟨y1, y2, y3⟩ := w3 b (by rw [te]; exact hb)
      rw [eEP, gEcz, gBcz, gVcz, gScz, gCcz]
      exact ⟨y1, y2, y3 (jt.1.n0 tb), rfl, w2 b tb (by rw [te]; exact hb)⟩
    · rw [eEP]; exact r1
    · rw [eEP]; exact r2
    · have bn : b ≠ e := fun g => by rw [g, u1_s] at hb; exact κ0 hb.symm
      rw [u1_o _ _ bn] at hb
      have tb : T b ≠ 0 := by rw [hb]; exact κ0
      rw [eEP, eEck]
      exact OrK.tk jt.1 te0 hc2 tb bn (hmv b hb bn)
  · rw [← hcE]
    refine hM.mv (δ := 1 + k) (gEpu.trans (gBpu.trans (gVpu.trans (gSpu.trans gCpu)))) ?_ (fun r hr' => by rw [gEst, gBst, gVst, gSst, gCst, u1_o _ _ hr']) (gNpu.trans (gOpu.trans gMpu)) (gNst.trans (gOst.trans gMst)) (gNK.trans (gOK.trans gMK)) (by rw [gNsp, gOsp, gMsp, Nat.add_assoc]) (by rw [gNsp, gOsp, gMsp]; omega) ⟨gEfk.trans (gBfk.trans (gVfk.trans (gSfk.trans gCfk))), gEfv.trans (gBfv.trans (gVfv.trans (gSfv.trans gCfv))), gNfk.trans (gOfk.trans gMfk), gNfv.trans (gOfv.trans gMfv), ?_, gNse.trans (gOse.trans gMse), gEcn.trans (gBcn.trans (gVcn.trans (gScn.trans gCcn)))⟩ (gEN.trans (gBN.trans (gVN.trans (gSN.trans gCN)))) (gNN.trans (gON.trans gMN)) (gErO.trans (gBrO.trans (gVrO.trans (gSrO.trans gCrO)))) (gErP.trans (gBrP.trans (gVrP.trans (gSrP.trans gCrP)))) (gErT.trans (gBrT.trans (gVrT.trans (gSrT.trans gCrT)))) (gErQ.trans (gBrQ.trans (gVrQ.trans (gSrQ.trans gCrQ)))) (gNrO.trans (gOrO.trans gMrO)) (gNrP.trans (gOrP.trans gMrP)) (gNrT.trans (gOrT.trans gMrT)) (gNrQ.trans (gOrQ.trans gMrQ))
    · rw [gEst, gBst, gVst, gSst, gCst, u1_s, ← nI_add, ← nI_1c, Int32.add_assoc]
    · rw [gEE, gNE, gOE, gME, hM.2.2.1.2.2.1]
  · exact ⟨by rw [hM.2.2.1.2.2.1]; exact f10, gBE.trans (gVE.trans (gSE.trans gCE)), gNK.trans (gOK.trans gMK), gNkd.trans (gOkd.trans gMkd), gNN.trans (gON.trans gMN), gNst.trans (gOst.trans gMst), gNnu.trans (gOnu.trans gMnu), gNpl.trans (gOpl.trans gMpl), fun _ => rfl⟩
end LoseP
