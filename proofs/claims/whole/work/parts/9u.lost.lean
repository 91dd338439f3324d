-- drop: a node goes from a TURNING tree
def m78 (m : MS) (n : Nat) : MS := (mLetN m n).sP ((mLetN m n).P.1, m.P.2.1, u1 m.P.2.2 (m.P.1 n) 0)
theorem Hm78 (m : MS) (n : Nat) : (m78 m n).kd = m.kd ∧ (m78 m n).rt = m.rt ∧ (m78 m n).pl = m.pl ∧ (m78 m n).nu = m.nu ∧ (m78 m n).cs = m.cs ∧ (m78 m n).it = m.it ∧ (m78 m n).nx = m.nx ∧ (m78 m n).K = m.K ∧ (m78 m n).E = m.E ∧ (m78 m n).nm = m.nm ∧ (m78 m n).fn = n ∧ (m78 m n).im = m.im ∧ (m78 m n).fi = m.fi ∧ (m78 m n).se = m.se ∧ (m78 m n).P = (u1 m.P.1 n m.fn, m.P.2.1, u1 m.P.2.2 (m.P.1 n) 0) ∧ (m78 m n).ky = m.ky ∧ (m78 m n).lV = m.lV ∧ (m78 m n).fV = m.fV ∧ (m78 m n).pu = m.pu ∧ (m78 m n).st = m.st ∧ (m78 m n).sp = m.sp ∧ (m78 m n).fk = m.fk ∧ (m78 m n).fv = m.fv ∧ (m78 m n).N = m.N ∧ (m78 m n).rO = m.rO ∧ (m78 m n).rP = m.rP ∧ (m78 m n).rT = m.rT ∧ (m78 m n).rQ = m.rQ := ⟨rfl, rfl, rfl, rfl, rfl, rfl, rfl, rfl, rfl, rfl, rfl, rfl, rfl, rfl, rfl, rfl, rfl, rfl, rfl, rfl, rfl, rfl, rfl, rfl, rfl, rfl, rfl, rfl⟩
def mJn (m : MS) (s e k r : Nat) : MS := ((mUp (m.ssp (m.sp + k)) e).sP (str (mUp (m.ssp (m.sp + k)) e).P e r)).srt (u1 (mUp (m.ssp (m.sp + k)) e).rt s e)
theorem HmJn (m : MS) (s e k r : Nat) : (mJn m s e k r).kd = m.kd ∧ (mJn m s e k r).rt = u1 m.rt s e ∧ (mJn m s e k r).pl = m.pl ∧ (mJn m s e k r).nu = m.nu ∧ (mJn m s e k r).cs = m.cs ∧ (mJn m s e k r).it = m.it ∧ (mJn m s e k r).nx = m.nx ∧ (mJn m s e k r).K = m.K ∧ (mJn m s e k r).E = m.E ∧ (mJn m s e k r).nm = m.nm ∧ (mJn m s e k r).fn = m.fn ∧ (mJn m s e k r).im = m.im ∧ (mJn m s e k r).fi = m.fi ∧ (mJn m s e k r).se = m.se ∧ (mJn m s e k r).P = str (tuF 20003 m.P e (m.sp + k)).1 e r ∧ (mJn m s e k r).ky = m.ky ∧ (mJn m s e k r).lV = m.lV ∧ (mJn m s e k r).fV = m.fV ∧ (mJn m s e k r).pu = m.pu ∧ (mJn m s e k r).st = m.st ∧ (mJn m s e k r).sp = (tuF 20003 m.P e (m.sp + k)).2 ∧ (mJn m s e k r).fk = m.fk ∧ (mJn m s e k r).fv = m.fv ∧ (mJn m s e k r).N = m.N ∧ (mJn m s e k r).rO = m.rO ∧ (mJn m s e k r).rP = m.rP ∧ (mJn m s e k r).rT = m.rT ∧ (mJn m s e k r).rQ = m.rQ := ⟨rfl, rfl, rfl, rfl, rfl, rfl, rfl, rfl, rfl, rfl, rfl, rfl, rfl, rfl, rfl, rfl, rfl, rfl, rfl, rfl, rfl, rfl, rfl, rfl, rfl, rfl, rfl, rfl⟩
section LoseT
variable (L : Nat) (xs : Nat → Int32)
set_option maxHeartbeats 4000000 in
theorem lose_T0 {m : MS} {c : CS} {d : DS} {B : AH} {T z : Nat → Nat} {V R : Nat → List Nat} {FN FI : List Nat} {ow : Nat → Nat} (hj : JJ m c d B T z V R FN FI ow) {s n : Nat} (hs : s < m.K) (k1 : m.kd s = 1) (hn : T n = s + 1) (hro : c.ro s = n) (hM : JM m c s) (hsp : m.sp ≤ 80000) (hnx : m.nx (m.fV n) = 0) (hl : c.P.1 n = 0) : LoseOK L xs m c d B R s n := by
  obtain ⟨jb, js, jt, jr, jp, jd, jv, ji, jf, jw, jh, jz, jl⟩ := id hj
  obtain ⟨p1, p2, p3, p4⟩ := id jb.1
  obtain ⟨h1, h2, h3, h4, h5, h6⟩ := hj.kin hs
  have hw := jb.2.2.2.2.2
  have ks : m.kd s ≤ 1 := by omega
  obtain ⟨t, f1, f2, f3, f4, f5, f6, f7, f8, f9, f10, f11, f12, f13, n1, n2⟩ := hj.fst hs ks hn
  have κ0 : s + 1 ≠ 0 := Nat.succ_ne_zero s
  have tn : T n ≠ 0 := by rw [hn]; exact κ0
  have ht : t = [] := f11.mp hnx
  rw [ht] at f1 f6
  have f6 : c.nv n = 1 := f6
  have hK := hj.K
  have hs40 : s < 40 := by omega
  have hdn := hj.hD n (Or.inr tn)
  have ag : ∀ b, T b = s + 1 → m.P.1 b = c.P.1 b ∧ m.P.2.1 b = c.P.2.1 b ∧ m.P.2.2 b = c.P.2.2 b := fun b hb => by
    have p := jp.2 b (by rw [hb]; exact κ0)
    exact ⟨p.1, p.2.1, p.2.2.2 (by rw [hb, Nat.add_sub_cancel]; omega)⟩
  have eRt := ((jr s hs).1 (by omega)).1
  have ts : tg B (d.sa (s + 1)) = 7 := by rw [h6, k1]; rfl
  have hu : c.P.2.2 n = 0 := by
    have := ((jr s hs).2.2.1 (by rw [hro]; omega)).2
    rw [hro] at this
    exact this
  have czn : c.cz n = z n := jz.2.1 n tn (by rw [hn, Nat.add_sub_cancel, k1]; exact Nat.le_refl 1)
  have zn := hj.zle (Or.inr tn)
  have lgs := (jz.1 s hs).2.2.1 k1
  have lgd := Sm_del jt.2.1 κ0 (fun a => Nat.log2 (z a)) hn
  have lgd : Sm T (s + 1) (fun a => Nat.log2 (z a)) = Nat.log2 (z n) + Sm (u1 T n 0) (s + 1) (fun a => Nat.log2 (z a)) := lgd
  obtain ⟨w1, w2, w3, w4, w5⟩ := jt.1.2.2 n tn
  have hWd := WF.dr jt.1 tn hu
  obtain ⟨cA, hcA⟩ : ∃ x, x = cA1 c s n := ⟨_, rfl⟩
  have gC := HcA1 c s n
  rw [← hcA] at gC
  obtain ⟨gCcc, gCvn, gCvx, gCkd, gCro, gChe, gCvs, gChy, gCla, gCtl, gCdp, gCpa, gCK, gCar, gCcn, gClg, gCP, gCck, gCcz, gCl1, gCf1, gCnv, gCpu, gCst, gCfk, gCfv, gCE, gCN, gCrO, gCrP, gCrT, gCrQ⟩ := gC
  obtain ⟨mA, hmA⟩ : ∃ x, x = mA0 m n := ⟨_, rfl⟩
  have gM := HmA0 m n
  rw [← hmA] at gM
  obtain ⟨gMkd, gMrt, gMpl, gMnu, gMcs, gMit, gMnx, gMK, gME, gMnm, gMfn, gMim, gMfi, gMse, gMP, gMky, gMlV, gMfV, gMpu, gMst, gMsp, gMfk, gMfv, gMN, gMrO, gMrP, gMrT, gMrQ⟩ := gM
  obtain ⟨cG, hcG⟩ : ∃ x, x = cA.slg (u1 cA.lg s (cA.lg s - Nat.log2 (cA.cz n))) := ⟨_, rfl⟩
  have gG := HcSlg cA (u1 cA.lg s (cA.lg s - Nat.log2 (cA.cz n)))
  rw [← hcG] at gG
  obtain ⟨gGcc, gGvn, gGvx, gGkd, gGro, gGhe, gGvs, gGhy, gGla, gGtl, gGdp, gGpa, gGK, gGar, gGcn, gGlg, gGP, gGck, gGcz, gGl1, gGf1, gGnv, gGpu, gGst, gGfk, gGfv, gGE, gGN, gGrO, gGrP, gGrT, gGrQ⟩ := gG

  have lzr : LZ T (c.P.2.1 n) := jt.1.lzr tn
  have e174 := c174_0 L xs hw jb.2.2.2.1 h2 ts cA (n := n) (by omega) hdn (by rw [gCP]; exact hj.hD _ lzr) (by rw [gCP]; exact hl) (by rw [gCcz, czn]; omega) (by rw [gCcz, czn, gClg, lgs]; omega)
  rw [← hcG, gCP] at e174
  have e163 := c163 L xs hw jb.2.2.2.1 jb.2.2.2.2.1 h2 (Or.inr ts) c (n := n) (by omega) hdn (by rw [f2]; exact f5) (by rw [f2]; omega) (by omega) (by omega) f8 (fun _ => f9) (H := cl B d (cRoot cG s (c.P.2.1 n))) (fun _ => by
    rw [ts, cc_11_58_7, ← e174, hcA]
    rfl)
  rw [if_pos f6] at e163
  obtain ⟨cB, hcB⟩ : ∃ x, x = cRoot cG s (c.P.2.1 n) := ⟨_, rfl⟩
  have gB := HcRoot cG s (c.P.2.1 n)
  rw [← hcB] at gB e163
  obtain ⟨gBcc, gBvn, gBvx, gBkd, gBro, gBhe, gBvs, gBhy, gBla, gBtl, gBdp, gBpa, gBK, gBar, gBcn, gBlg, gBP, gBck, gBcz, gBl1, gBf1, gBnv, gBpu, gBst, gBfk, gBfv, gBE, gBN, gBrO, gBrP, gBrT, gBrQ⟩ := gB
  obtain ⟨cE, hcE⟩ : ∃ x, x = cB.sE (c.E - 1) := ⟨_, rfl⟩
  have gE := HcSE cB (c.E - 1)
  rw [← hcE] at gE
  obtain ⟨gEcc, gEvn, gEvx, gEkd, gEro, gEhe, gEvs, gEhy, gEla, gEtl, gEdp, gEpa, gEK, gEar, gEcn, gElg, gEP, gEck, gEcz, gEl1, gEf1, gEnv, gEpu, gEst, gEfk, gEfv, gEE, gEN, gErO, gErP, gErT, gErQ⟩ := gE
  obtain ⟨mB, hmB⟩ : ∃ x, x = mRg mA s n := ⟨_, rfl⟩
  have gN := HmRg mA s n
  rw [← hmB] at gN
  obtain ⟨gNkd, gNrt, gNpl, gNnu, gNcs, gNit, gNnx, gNK, gNE, gNnm, gNfn, gNim, gNfi, gNse, gNP, gNky, gNlV, gNfV, gNpu, gNst, gNsp, gNfk, gNfv, gNN, gNrO, gNrP, gNrT, gNrQ⟩ := gN
  have ref : ∀ h, MB h → ∀ (q : SCT) (pr : Int32) (k : Int64), X L xs 77 121 [.ref 8, .int (nI s), .long k, .null, .int pr, .int (en n), .int 1, .int (en (m.fV n))] [] (ml h (m.sW q)) = X L xs 77 177 [.ref 8, .int (nI s), .long k, .null, .int pr, .int (en n), .int 1, .int (en (m.fV n))] [] (ml h (mB.sW q)) := fun h hh q pr k => by
    obtain ⟨b1, b2, b3, b4⟩ := id hh
    rw [m_77p L xs hh m n1 n2 f3 (by omega) f12 f10 q pr k, if_neg (fun g => g hnx), k_77_152, ← hmA]
    have e78 := m_78a L xs hh (mA.sW q) (s := s) (n := n) hs40 (by show mA.rt s = n; rw [gMrt, eRt, hro]) n1 n2 (by show BP mA.P; rw [gMP]; exact jp.1) (by show mA.P.1 n = 0; rw [gMP, (ag n hn).1]; exact hl)
    have ew : mRg (mA.sW q) s n = mB.sW q := by rw [hmB]; rfl
    rw [ew] at e78
    simp only [Hml, b1, b2, b3, b4, HF10, gd_t, decide_true, Bool.and_self, HQ, HZ, SWq, inb_nI hs40 (by decide), nI_clamp (show s < 2 ^ 31 by omega), gMkd, k1]
    rw [if_neg (by decide), k_77_162]
    simp only [Hml, b1, b2, b3, b4, HF10, gd_t, decide_true, Bool.and_self, HQ, HZ, cc_9_197_10, e78, bV_s]
  clear hmA hmB hcA hcB hcG e174
  have cP : cE.P.1 = c.P.1 ∧ cE.P.2.1 = c.P.2.1 ∧ ∀ b, b ≠ 0 → cE.P.2.2 b = if b = c.P.2.1 n then 0 else c.P.2.2 b := by
    rw [gEP, gBP, gGP, gCP]
    by_cases r0 : c.P.2.1 n = 0
    · rw [if_pos r0]
      exact ⟨rfl, rfl, fun b b0 => by rw [if_neg (fun g => b0 (g.trans r0))]⟩
    · rw [if_neg r0]
      refine ⟨rfl, rfl, fun b b0 => ?_⟩
      by_cases g : b = c.P.2.1 n
      · rw [if_pos g, g]; exact u1_s _ _ _
      · rw [if_neg g]; exact u1_o _ _ g
  have mP : mB.P.1 = u1 m.P.1 n m.fn ∧ mB.P.2.1 = m.P.2.1 ∧ ∀ b, b ≠ 0 → mB.P.2.2 b = if b = c.P.2.1 n then 0 else m.P.2.2 b := by
    rw [gNP, gMP, gMfn, (ag n hn).2.1]
    by_cases r0 : c.P.2.1 n = 0
    · rw [if_pos r0]
      exact ⟨rfl, rfl, fun b b0 => by rw [if_neg (fun g => b0 (g.trans r0))]⟩
    · rw [if_neg r0]
      refine ⟨rfl, rfl, fun b b0 => ?_⟩
      by_cases g : b = c.P.2.1 n
      · rw [if_pos g, g]; exact u1_s _ _ _
      · rw [if_neg g]; exact u1_o _ _ g
  have mP0 : mB.P.2.2 0 ≤ 20002 := by
    rw [gNP, gMP]
    by_cases r0 : m.P.2.1 n = 0
    · rw [if_pos r0]; exact (jp.1 0).2.2
    · rw [if_neg r0]
      show u1 m.P.2.2 (m.P.2.1 n) 0 0 ≤ _
      rw [u1_o _ _ (Ne.symm r0)]; exact (jp.1 0).2.2
  obtain ⟨cP1, cP2, cP3⟩ := cP
  obtain ⟨mP1, mP2, mP3⟩ := mP
  have rn : c.P.2.1 n ≠ 0 → T (c.P.2.1 n) = s + 1 ∧ c.P.2.1 n ≠ n := fun r0 => by
    refine ⟨(w2 r0).2.trans hn, fun g => ?_⟩
    have := (jt.1.mu n tn).2 r0
    rw [g] at this
    omega
  refine ⟨cB, (d.dn n).di (m.fV n), mB, u1 T n 0, z, u1 V n (V n), n :: FN, m.fV n :: FI, fun j => if j = m.fV n then 50000 else if ow j = n then n else ow j, e163, fun c0 => cl_let B d c0 n (m.fV n), ref, ?_, ?_, ?_⟩
  · rw [← hcE]
    refine gone_tr (q := c.P.2.1 n) hj hs ks hn hn f1 ⟨gNkd.trans gMkd, ?_, gNpl.trans gMpl, gNnu.trans gMnu, gNcs.trans gMcs, gNit.trans gMit, gNnx.trans gMnx, gNK.trans gMK, gNE.trans gME, gNnm.trans gMnm, gNfn, gNim.trans gMim, gNfi.trans gMfi, gNse.trans gMse⟩ (fun b hb => ?_) (fun g => absurd rfl g) ⟨gEcc.trans (gBcc.trans (gGcc.trans gCcc)), gEvn.trans (gBvn.trans (gGvn.trans gCvn)), gEvx.trans (gBvx.trans (gGvx.trans gCvx)), gEkd.trans (gBkd.trans (gGkd.trans gCkd)), ?_, gEhe.trans (gBhe.trans (gGhe.trans gChe)), gEvs.trans (gBvs.trans (gGvs.trans gCvs)), gEhy.trans (gBhy.trans (gGhy.trans gChy)), gEla.trans (gBla.trans (gGla.trans gCla)), gEtl.trans (gBtl.trans (gGtl.trans gCtl)), gEdp.trans (gBdp.trans (gGdp.trans gCdp)), gEpa.trans (gBpa.trans (gGpa.trans gCpa)), gEK.trans (gBK.trans (gGK.trans gCK)), gEar.trans (gBar.trans (gGar.trans gCar)), gEcn.trans (gBcn.trans (gGcn.trans gCcn)), fun r hr => by rw [gElg, gBlg, gGlg, u1_o _ _ hr, gClg]⟩ ⟨?_, ?_, fun b hb => ?_, fun b b0 hb => ?_, ?_, fun b tb hb => ?_, ?_, ?_, fun _ => ?_, fun g => by omega⟩
    · rw [gNrt, gMP, gMrt, (ag n hn).2.1]
    · rw [gNky, gMky, gNfV, gMfV, gNlV, gMlV, gEck, gBck, gGck, gCck, gEnv, gBnv, gGnv, gCnv, gEf1, gBf1, gGf1, gCf1, gEl1, gBl1, gGl1, gCl1, u1_o _ _ hb, u1_o _ _ hb, u1_o _ _ hb]
      exact ⟨rfl, rfl, rfl, rfl, rfl, rfl, rfl⟩
    · rw [gEro, gBro, gGro, gCro]
    · refine hWd.pt (fun b hb => ?_)
      have bn : b ≠ n := fun g => by rw [g, u1_s] at hb; exact hb rfl
      rw [u1_o _ _ bn] at hb
      have b0 := jt.1.n0 hb
      rw [cP1, cP2, cP3 b b0]
      refine ⟨rfl, rfl, ?_⟩
      show _ = u1 (u1 c.P.2.2 (c.P.1 n) 0) (c.P.2.1 n) 0 b
      by_cases g : b = c.P.2.1 n
      · rw [if_pos g, g, u1_s]
      · rw [if_neg g, u1_o _ _ g, u1_o _ _ (by rw [hl]; exact b0)]
    · intro b
      rw [mP1, mP2]
      refine ⟨?_, (jp.1 b).2.1, ?_⟩
      · by_cases g : b = n
        · rw [g, u1_s]; exact f13
        · rw [u1_o _ _ g]; exact (jp.1 b).1
      · by_cases b0 : b = 0
        · rw [b0]; exact mP0
        · rw [mP3 b b0]
          split
          · omega
          · exact (jp.1 b).2.2
    · have bn : b ≠ n := fun g => by rw [g, u1_s] at hb; exact κ0 hb.symm
      rw [u1_o _ _ bn] at hb
      obtain ⟨a1, a2, a3⟩ := ag b hb
      have tb : T b ≠ 0 := by rw [hb]; exact κ0
      have b0 := jt.1.n0 tb
      rw [mP1, mP2, mP3 b b0, cP1, cP2, cP3 b b0, u1_o _ _ bn, a1, a2, a3]
      refine ⟨rfl, rfl, rfl, fun _ => ?_⟩
      rw [gEcz, gBcz, gGcz, gCcz]
      exact jz.2.1 b tb (by rw [hb, Nat.add_sub_cancel, k1]; exact Nat.le_refl 1)
    · have bn : b ≠ n := fun g => hb (by rw [g]; exact hn)
      have br : b ≠ c.P.2.1 n := fun g => hb (by rw [g]; exact (rn (by rw [← g]; exact b0)).1)
      rw [mP1, mP2, mP3 b b0, u1_o _ _ bn, if_neg br]
      exact ⟨rfl, rfl, rfl⟩
    · rw [mP1, u1_s]
    · have b0 := jt.1.n0 tb
      have br : b ≠ c.P.2.1 n := fun g => hb (by rw [g]; exact (rn (by rw [← g]; exact b0)).1)
      rw [cP1, cP2, cP3 b b0, if_neg br, gEcz, gBcz, gGcz, gCcz]
      exact ⟨rfl, rfl, rfl, rfl, rfl⟩
    · intro q0
      rw [cP3 _ q0, if_pos rfl, u1_o _ _ (rn q0).2]
      exact ⟨(rn q0).1, rfl⟩
    · intro b hb hub
      have bn : b ≠ n := fun g => by rw [g, u1_s] at hb; exact κ0 hb.symm
      rw [u1_o _ _ bn] at hb
      have tb : T b ≠ 0 := by rw [hb]; exact κ0
      rw [cP3 b (jt.1.n0 tb)] at hub
      by_cases g : b = c.P.2.1 n
      · exact g
      · rw [if_neg g] at hub
        exact absurd (((jr s hs).2.2.2 b hb hub).trans hro) bn
    · rw [gElg, gBlg, gGlg, u1_s, gClg, gCcz, czn, lgs, lgd]
      omega
  · rw [← hcE]
    refine hM.mv (δ := 0) (gEpu.trans (gBpu.trans (gGpu.trans gCpu))) ?_ (fun r _ => by rw [gEst, gBst, gGst, gCst]) (gNpu.trans gMpu) (gNst.trans gMst) (gNK.trans gMK) (gNsp.trans gMsp) (by rw [gNsp, gMsp]; omega) ⟨gEfk.trans (gBfk.trans (gGfk.trans gCfk)), gEfv.trans (gBfv.trans (gGfv.trans gCfv)), gNfk.trans gMfk, gNfv.trans gMfv, ?_, gNse.trans gMse, gEcn.trans (gBcn.trans (gGcn.trans gCcn))⟩ (gEN.trans (gBN.trans (gGN.trans gCN))) (gNN.trans gMN) (gErO.trans (gBrO.trans (gGrO.trans gCrO))) (gErP.trans (gBrP.trans (gGrP.trans gCrP))) (gErT.trans (gBrT.trans (gGrT.trans gCrT))) (gErQ.trans (gBrQ.trans (gGrQ.trans gCrQ))) (gNrO.trans gMrO) (gNrP.trans gMrP) (gNrT.trans gMrT) (gNrQ.trans gMrQ)
    · rw [gEst, gBst, gGst, gCst, nI_0, Int32.add_zero]
    · rw [gEE, gNE, gME, hM.2.2.1.2.2.1]
  · exact ⟨by rw [hM.2.2.1.2.2.1]; exact f10, gBE.trans (gGE.trans gCE), gNK.trans gMK, gNkd.trans gMkd, gNN.trans gMN, gNst.trans gMst, gNnu.trans gMnu, gNpl.trans gMpl, fun _ => rfl⟩
set_option maxHeartbeats 8000000 in
theorem lose_T1 {m : MS} {c : CS} {d : DS} {B : AH} {T z : Nat → Nat} {V R : Nat → List Nat} {FN FI : List Nat} {ow : Nat → Nat} (hj : JJ m c d B T z V R FN FI ow) {s n : Nat} (hs : s < m.K) (k1 : m.kd s = 1) (hn : T n = s + 1) (hro : c.ro s = n) (hM : JM m c s) (hsp : m.sp ≤ 50000) (hnx : m.nx (m.fV n) = 0) (hl : c.P.1 n ≠ 0) : LoseOK L xs m c d B R s n := by
  obtain ⟨jb, js, jt, jr, jp, jd, jv, ji, jf, jw, jh, jz, jl⟩ := id hj
  obtain ⟨p1, p2, p3, p4⟩ := id jb.1
  obtain ⟨h1, h2, h3, h4, h5, h6⟩ := hj.kin hs
  have hw := jb.2.2.2.2.2
  have ks : m.kd s ≤ 1 := by omega
  obtain ⟨t, f1, f2, f3, f4, f5, f6, f7, f8, f9, f10, f11, f12, f13, n1, n2⟩ := hj.fst hs ks hn
  have κ0 : s + 1 ≠ 0 := Nat.succ_ne_zero s
  have tn : T n ≠ 0 := by rw [hn]; exact κ0
  have ht : t = [] := f11.mp hnx
  rw [ht] at f1 f6
  have f6 : c.nv n = 1 := f6
  have hK := hj.K
  have hs40 : s < 40 := by omega
  have hdn := hj.hD n (Or.inr tn)
  have ag : ∀ b, T b = s + 1 → m.P.1 b = c.P.1 b ∧ m.P.2.1 b = c.P.2.1 b ∧ m.P.2.2 b = c.P.2.2 b := fun b hb => by
    have p := jp.2 b (by rw [hb]; exact κ0)
    exact ⟨p.1, p.2.1, p.2.2.2 (by rw [hb, Nat.add_sub_cancel]; omega)⟩
  have eRt := ((jr s hs).1 (by omega)).1
  have ts : tg B (d.sa (s + 1)) = 7 := by rw [h6, k1]; rfl
  have hu : c.P.2.2 n = 0 := by
    have := ((jr s hs).2.2.1 (by rw [hro]; omega)).2
    rw [hro] at this
    exact this
  have czn : c.cz n = z n := jz.2.1 n tn (by rw [hn, Nat.add_sub_cancel, k1]; exact Nat.le_refl 1)
  have zn := hj.zle (Or.inr tn)
  have lgs := (jz.1 s hs).2.2.1 k1
  have lgd := Sm_del jt.2.1 κ0 (fun a => Nat.log2 (z a)) hn
  have lgd : Sm T (s + 1) (fun a => Nat.log2 (z a)) = Nat.log2 (z n) + Sm (u1 T n 0) (s + 1) (fun a => Nat.log2 (z a)) := lgd
  obtain ⟨w1, w2, w3, w4, w5⟩ := jt.1.2.2 n tn
  have hWd := WF.dr jt.1 tn hu
  obtain ⟨cA, hcA⟩ : ∃ x, x = cA1 c s n := ⟨_, rfl⟩
  have gC := HcA1 c s n
  rw [← hcA] at gC
  obtain ⟨gCcc, gCvn, gCvx, gCkd, gCro, gChe, gCvs, gChy, gCla, gCtl, gCdp, gCpa, gCK, gCar, gCcn, gClg, gCP, gCck, gCcz, gCl1, gCf1, gCnv, gCpu, gCst, gCfk, gCfv, gCE, gCN, gCrO, gCrP, gCrT, gCrQ⟩ := gC
  obtain ⟨mA, hmA⟩ : ∃ x, x = mA0 m n := ⟨_, rfl⟩
  have gM := HmA0 m n
  rw [← hmA] at gM
  obtain ⟨gMkd, gMrt, gMpl, gMnu, gMcs, gMit, gMnx, gMK, gME, gMnm, gMfn, gMim, gMfi, gMse, gMP, gMky, gMlV, gMfV, gMpu, gMst, gMsp, gMfk, gMfv, gMN, gMrO, gMrP, gMrT, gMrQ⟩ := gM
  obtain ⟨cG, hcG⟩ : ∃ x, x = cA.slg (u1 cA.lg s (cA.lg s - Nat.log2 (cA.cz n))) := ⟨_, rfl⟩
  have gG := HcSlg cA (u1 cA.lg s (cA.lg s - Nat.log2 (cA.cz n)))
  rw [← hcG] at gG
  obtain ⟨gGcc, gGvn, gGvx, gGkd, gGro, gGhe, gGvs, gGhy, gGla, gGtl, gGdp, gGpa, gGK, gGar, gGcn, gGlg, gGP, gGck, gGcz, gGl1, gGf1, gGnv, gGpu, gGst, gGfk, gGfv, gGE, gGN, gGrO, gGrP, gGrT, gGrQ⟩ := gG

  obtain ⟨l, hle⟩ : ∃ l, l = c.P.1 n := ⟨_, rfl⟩
  obtain ⟨r, hre⟩ : ∃ r, r = c.P.2.1 n := ⟨_, rfl⟩
  rw [← hle] at hl w1 w4 hWd
  rw [← hre] at w2 w4 hWd
  have l1 := w1 hl
  have tl : T l = s + 1 := l1.2.trans hn
  have tr : r ≠ 0 → T r = s + 1 := fun r0 => (w2 r0).2.trans hn
  have ln : l ≠ n := fun g => by
    have := (jt.1.mu n tn).1 (by rw [← hle]; exact hl)
    rw [← hle, g] at this
    omega
  have rn : r ≠ n := fun g => by
    have r0 : r ≠ 0 := by rw [g]; omega
    have := (jt.1.mu n tn).2 (by rw [← hre]; exact r0)
    rw [← hre, g] at this
    omega
  have lr : l ≠ r := fun g => hl (w4 g)
  have hT1 : TN (u1 T n 0) := TN_u1 jt.2.1 (by omega) n2
  have k20 : m.K + 1 ≠ 0 := Nat.succ_ne_zero _
  have kne : s + 1 ≠ m.K + 1 := by omega
  have no2 : ∀ x, T x ≠ m.K + 1 := fun x g => by
    have := (jt.2.2 x (by rw [g]; exact k20)).1
    omega
  obtain ⟨T2, t21, t22, t23, t24, t25, t26, t27⟩ := split_lab hWd hT1 (κ := s + 1) (κ2 := m.K + 1) (a := l) (r := r) κ0 k20 (fun x g => by
    by_cases e : x = n
    · rw [e, u1_s] at g; omega
    · rw [u1_o _ _ e] at g; exact no2 x g) (fun r0 => by
    rw [u1_o _ _ rn]
    exact ⟨tr r0, u1_s _ _ _⟩) (fun _ => by
    rw [u1_o _ _ ln]
    refine ⟨tl, ?_, lr⟩
    show u1 (u1 c.P.2.2 l 0) r 0 l = 0
    rw [u1_o _ _ lr, u1_s])
  have eT : (fun x => if T2 x = m.K + 1 then s + 1 else T2 x) = u1 T n 0 := funext t26
  have t2a : ∀ b, (T2 b = s + 1 ∨ T2 b = m.K + 1) ↔ u1 T n 0 b = s + 1 := fun b => by
    rw [← t26 b]
    by_cases g : T2 b = m.K + 1
    · rw [if_pos g]; exact ⟨fun _ => rfl, fun _ => Or.inr g⟩
    · rw [if_neg g]; exact ⟨fun h => h.resolve_right g, Or.inl⟩
  have t2b : ∀ b, (T2 b = s + 1 ∨ T2 b = m.K + 1) → b ≠ n ∧ T b = s + 1 := fun b hb => by
    have h := (t2a b).mp hb
    have bn : b ≠ n := fun g => by rw [g, u1_s] at h; exact κ0 h.symm
    rw [u1_o _ _ bn] at h
    exact ⟨bn, h⟩
  have t2n : T2 n ≠ s + 1 := fun g => (t2b n (Or.inl g)).1 rfl
  have t2l := t23 hl
  have t2o : ∀ b, T b ≠ s + 1 → T2 b = T b := fun b hb => by
    have bn : b ≠ n := fun g => hb (by rw [g]; exact hn)
    have := t27 b (by rw [u1_o _ _ bn]; exact hb)
    rw [u1_o _ _ bn] at this
    exact this
  have bnr : ∀ b, T2 b = s + 1 → b ≠ r := fun b hb g => by
    by_cases r0 : r = 0
    · rw [g, r0, t22.1] at hb; exact κ0 hb.symm
    · rw [g, t24 r0] at hb; exact kne hb.symm
  have t2r : T2 r ≠ s + 1 := fun g => bnr r g rfl
  -- the pictures
  obtain ⟨m1, hm1⟩ : ∃ x, x = m78 mA n := ⟨_, rfl⟩
  have g1 := Hm78 mA n
  rw [← hm1] at g1
  obtain ⟨g1kd, g1rt, g1pl, g1nu, g1cs, g1it, g1nx, g1K, g1E, g1nm, g1fn, g1im, g1fi, g1se, g1P, g1ky, g1lV, g1fV, g1pu, g1st, g1sp, g1fk, g1fv, g1N, g1rO, g1rP, g1rT, g1rQ⟩ := g1
  have m1P : m1.P = (u1 m.P.1 n m.fn, m.P.2.1, u1 m.P.2.2 l 0) := by rw [g1P, gMP, gMfn, (ag n hn).1, ← hle]
  obtain ⟨c1, hc1⟩ : ∃ x, x = cRoot cG s l := ⟨_, rfl⟩
  have gR := HcRoot cG s l
  rw [← hc1] at gR
  obtain ⟨gRcc, gRvn, gRvx, gRkd, gRro, gRhe, gRvs, gRhy, gRla, gRtl, gRdp, gRpa, gRK, gRar, gRcn, gRlg, gRP, gRck, gRcz, gRl1, gRf1, gRnv, gRpu, gRst, gRfk, gRfv, gRE, gRN, gRrO, gRrP, gRrT, gRrQ⟩ := gR
  have c1P : c1.P = (c.P.1, c.P.2.1, u1 c.P.2.2 l 0) := by rw [gRP, if_neg hl, gGP, gCP]
  obtain ⟨e, he⟩ : ∃ e, e = (lR c1.P 20003 l).1 := ⟨_, rfl⟩
  obtain ⟨k, hk⟩ : ∃ k, k = (lR c1.P 20003 l).2 := ⟨_, rfl⟩
  have ek : lR c1.P 20003 l = (e, k) := by rw [he, hk]
  obtain ⟨Qc, hQc⟩ : ∃ Q, Q = (tuF 20003 c1.P e 0).1 := ⟨_, rfl⟩
  obtain ⟨tc, htc⟩ : ∃ t, t = (tuF 20003 c1.P e 0).2 := ⟨_, rfl⟩
  have eQc : tuF 20003 c1.P e 0 = (Qc, tc) := by rw [hQc, htc]
  obtain ⟨Qm, hQm⟩ : ∃ Q, Q = (tuF 20003 m1.P e (m1.sp + k)).1 := ⟨_, rfl⟩
  obtain ⟨tm, htm⟩ : ∃ t, t = (tuF 20003 m1.P e (m1.sp + k)).2 := ⟨_, rfl⟩
  have eQm : tuF 20003 m1.P e (m1.sp + k) = (Qm, tm) := by rw [hQm, htm]
  have hJN := JN (Pc := c1.P) (Pm := m1.P) (κ := s + 1) (κ2 := m.K + 1) (a := l) (r := r) t21 t22 κ0 k20 kne t2l (by show u1 (u1 c.P.2.2 l 0) r 0 l = 0; rw [u1_o _ _ lr, u1_s]) (fun r0 => ⟨t24 r0, u1_s _ _ _⟩) t25 (fun b hb => by
      rw [c1P]
      refine ⟨rfl, rfl, ?_⟩
      show u1 c.P.2.2 l 0 b = u1 (u1 c.P.2.2 l 0) r 0 b
      rw [u1_o _ _ (bnr b hb)]) (fun b hb => by
      obtain ⟨bn, tb⟩ := t2b b (Or.inl hb)
      obtain ⟨a1, a2, a3⟩ := ag b tb
      rw [c1P, m1P]
      refine ⟨?_, a2, ?_⟩
      · show u1 m.P.1 n _ b = c.P.1 b
        rw [u1_o _ _ bn]; exact a1
      · show u1 m.P.2.2 l 0 b = u1 c.P.2.2 l 0 b
        by_cases g : b = l
        · rw [g, u1_s, u1_s]
        · rw [u1_o _ _ g, u1_o _ _ g]; exact a3) (fun b hb => by
      rw [c1P]
      refine ⟨rfl, rfl, fun _ br => ?_⟩
      show u1 c.P.2.2 l 0 b = u1 (u1 c.P.2.2 l 0) r 0 b
      rw [u1_o _ _ br]) (fun b hb => by
      obtain ⟨bn, tb⟩ := t2b b (Or.inr hb)
      obtain ⟨a1, a2, a3⟩ := ag b tb
      rw [c1P, m1P]
      refine ⟨?_, a2, fun _ => ?_⟩
      · show u1 m.P.1 n _ b = c.P.1 b
        rw [u1_o _ _ bn]; exact a1
      · show u1 m.P.2.2 l 0 b = u1 c.P.2.2 l 0 b
        by_cases g : b = l
        · rw [g, u1_s, u1_s]
        · rw [u1_o _ _ g, u1_o _ _ g]; exact a3) (fun x hx hux => by
      by_cases g : x = l
      · exact g
      · have hux : u1 (u1 c.P.2.2 l 0) r 0 x = 0 := hux
        rw [u1_o _ _ (bnr x hx), u1_o _ _ g] at hux
        obtain ⟨xn, tx⟩ := t2b x (Or.inl hx)
        exact absurd (((jr s hs).2.2.2 x tx hux).trans hro) xn) (fun x hx hux => by
      by_cases g : x = r
      · exact g
      · have hux : u1 (u1 c.P.2.2 l 0) r 0 x = 0 := hux
        have xl : x ≠ l := fun q => by rw [q, t2l] at hx; exact kne hx
        rw [u1_o _ _ g, u1_o _ _ xl] at hux
        obtain ⟨xn, tx⟩ := t2b x (Or.inr hx)
        exact absurd (((jr s hs).2.2.2 x tx hux).trans hro) xn) (m1.sp + k) ek eQc eQm
  obtain ⟨⟨j1, te, q1, j4, tcb, kb, hWc, hWm, er⟩, z', y1, y2, y3, y4, y5, y6, y7, y8, y9, y10⟩ := hJN
  rw [eT] at y1 y10
  -- the class
  have lgsum : Sm (u1 T n 0) (s + 1) (fun a => Nat.log2 (z a)) = Sm T2 (s + 1) (fun a => Nat.log2 (z a)) + Sm T2 (m.K + 1) (fun a => Nat.log2 (z a)) := Sm_two t22 κ0 k20 kne κ0 hT1 (fun b => (t2a b).symm) _
  obtain ⟨cF, cS, c4, e165, e172, e181, -, ⟨u1', u2, u3, u4, u5, u6, u7, u8, u9, u10⟩, us⟩ := c_jn L xs (B := B) (d := d) (s := s) (κ := s + 1) (G0 := Sm T2 (m.K + 1) (fun a => Nat.log2 (z a))) (a := l) (r := r) hw jb.2.2.2.1 h2 ts c1 κ0 t22 hWc (fun x hx => hj.hD x (Or.inr (by rw [(t2b x (Or.inl hx)).2]; exact κ0))) (hj.hD r (by rw [hre]; exact jt.1.lzr tn)) t2l t2r (fun x hx => by
      rw [gRcz, gGcz, gCcz]
      have tx := (t2b x (Or.inl hx)).2
      exact jz.2.1 x (by rw [tx]; exact κ0) (by rw [tx, Nat.add_sub_cancel, k1]; exact Nat.le_refl 1)) (fun r0 => by
      rw [gRcz, gGcz, gCcz]
      exact jz.2.1 r (by rw [tr r0]; exact κ0) (by rw [tr r0, Nat.add_sub_cancel, k1]; exact Nat.le_refl 1)) (by have := hj.zle (a := r) (by rw [hre]; exact jt.1.lzr tn); omega) (by
      rw [gRlg, gGlg, u1_s, gClg, gCcz, czn, lgs, lgd, lgsum]
      omega) ek eQc te q1
  obtain ⟨ucc, uvn, uvx, ukd, uhe, uvs, uhy, utl, udp, upa, uK, uar, ucn, uck, ul1, uf1, unv, upu, ufk, ufv, uE, uN, urO, urP, urT, urQ⟩ := us
  have e174 := c174_1 L xs hw jb.2.2.2.1 h2 ts cA (n := n) (e := e) (c2 := cF) (c3 := cS) (c4 := c4) (by omega) hdn (by rw [gCP, ← hle]; exact hj.hD l (Or.inr (by rw [tl]; exact κ0))) (by rw [gCP, ← hle]; exact hl) (by rw [gCcz, czn]; omega) (by rw [gCcz, czn, gClg, lgs]; omega) (by rw [← hcG, gCP, ← hle, ← hc1]; exact e165) e172 (by rw [gCP, ← hre]; exact e181)
  have e163 := c163 L xs hw jb.2.2.2.1 jb.2.2.2.2.1 h2 (Or.inr ts) c (n := n) (by omega) hdn (by rw [f2]; exact f5) (by rw [f2]; omega) (by omega) (by omega) f8 (fun _ => f9) (H := cl B d c4) (fun _ => by
    rw [ts, cc_11_58_7, ← e174, hcA]
    rfl)
  rw [if_pos f6] at e163
  obtain ⟨cE, hcE⟩ : ∃ x, x = c4.sE (c.E - 1) := ⟨_, rfl⟩
  have gE := HcSE c4 (c.E - 1)
  rw [← hcE] at gE
  obtain ⟨gEcc, gEvn, gEvx, gEkd, gEro, gEhe, gEvs, gEhy, gEla, gEtl, gEdp, gEpa, gEK, gEar, gEcn, gElg, gEP, gEck, gEcz, gEl1, gEf1, gEnv, gEpu, gEst, gEfk, gEfv, gEE, gEN, gErO, gErP, gErT, gErQ⟩ := gE
  -- the reference
  obtain ⟨mB, hmB⟩ : ∃ x, x = mJn m1 s e k r := ⟨_, rfl⟩
  have gN := HmJn m1 s e k r
  rw [← hmB, ← hQm, ← htm] at gN
  obtain ⟨gNkd, gNrt, gNpl, gNnu, gNcs, gNit, gNnx, gNK, gNE, gNnm, gNfn, gNim, gNfi, gNse, gNP, gNky, gNlV, gNfV, gNpu, gNst, gNsp, gNfk, gNfv, gNN, gNrO, gNrP, gNrT, gNrQ⟩ := gN
  have bp1 : BP m1.P := by
    rw [m1P]
    intro b
    refine ⟨?_, (jp.1 b).2.1, ?_⟩
    · show u1 m.P.1 n m.fn b ≤ _
      by_cases g : b = n
      · rw [g, u1_s]; exact f13
      · rw [u1_o _ _ g]; exact (jp.1 b).1
    · show u1 m.P.2.2 l 0 b ≤ _
      by_cases g : b = l
      · rw [g, u1_s]; omega
      · rw [u1_o _ _ g]; exact (jp.1 b).2.2
  have te' := t2b e (Or.inl te)
  have eb : e ≤ 20002 := jt.2.1.2 e (by rw [te'.2]; exact κ0)
  have rb : r ≤ 20002 := by
    by_cases r0 : r = 0
    · omega
    · exact jt.2.1.2 r (by rw [tr r0]; exact κ0)
  have hTi : TN (ind T2 (s + 1)) := ⟨by unfold ind; rw [t22.1, if_neg (Ne.symm κ0)], fun b hb => t22.2 b (by rw [(ind_ne κ0 b).mp hb]; exact κ0)⟩
  have ref : ∀ h, MB h → ∀ (q : SCT) (pr : Int32) (k : Int64), X L xs 77 121 [.ref 8, .int (nI s), .long k, .null, .int pr, .int (en n), .int 1, .int (en (m.fV n))] [] (ml h (m.sW q)) = X L xs 77 177 [.ref 8, .int (nI s), .long k, .null, .int pr, .int (en n), .int 1, .int (en (m.fV n))] [] (ml h (mB.sW q)) := fun h hh q pr key => by
    obtain ⟨b1, b2, b3, b4⟩ := id hh
    rw [m_77p L xs hh m n1 n2 f3 (by omega) f12 f10 q pr key, if_neg (fun g => g hnx), k_77_152, ← hmA]
    have eL : (mA.sW q).P.1 n = l := by show mA.P.1 n = l; rw [gMP, (ag n hn).1, ← hle]
    have eR : (mA.sW q).P.2.1 n = r := by show mA.P.2.1 n = r; rw [gMP, (ag n hn).2.1, ← hre]
    have e78 := m_78b L xs hh (mA.sW q) (s := s) (n := n) (S := ind T2 (s + 1)) (z := z) (m1 := m1.sW q) (m2 := (mUp (m1.ssp (m1.sp + k)) e).sW q) (e := e) (k := k) hs40 (by show mA.rt s = n; rw [gMrt, eRt, hro]) n1 n2 (by show BP mA.P; rw [gMP]; exact jp.1) (by rw [eL]; exact hl) (by rw [hm1]; rfl) bp1 hWm hTi (by rw [eL]; exact (ind_ne κ0 l).mpr t2l) (by rw [eL]; exact j1) rfl
    have ew : (((mUp (m1.ssp (m1.sp + k)) e).sW q).sP (str ((mUp (m1.ssp (m1.sp + k)) e).sW q).P e r)).srt (u1 ((mUp (m1.ssp (m1.sp + k)) e).sW q).rt s e) = mB.sW q := by rw [hmB]; rfl
    rw [eR, ew] at e78
    simp only [Hml, b1, b2, b3, b4, HF10, gd_t, decide_true, Bool.and_self, HQ, HZ, SWq, inb_nI hs40 (by decide), nI_clamp (show s < 2 ^ 31 by omega), gMkd, k1]
    rw [if_neg (by decide), k_77_162]
    simp only [Hml, b1, b2, b3, b4, HF10, gd_t, decide_true, Bool.and_self, HQ, HZ, cc_9_197_10, e78, bV_s]
  clear hmA hmB hcA hcG e174 hm1 hc1
  have bpQ : BP Qm := by
    have := BP_tuF eb 20003 m1.P (m1.sp + k) bp1
    rw [eQm] at this
    exact this
  have nr : ∀ b, b ≠ 0 → T b ≠ s + 1 → b ≠ r := fun b b0 hb g => hb (by rw [g]; exact tr (by rw [← g]; exact b0))
  have nl : ∀ b, T b ≠ s + 1 → b ≠ l := fun b hb g => hb (by rw [g]; exact tl)
  refine ⟨c4, (d.dn n).di (m.fV n), mB, u1 T n 0, z', u1 V n (V n), n :: FN, m.fV n :: FI, fun j => if j = m.fV n then 50000 else if ow j = n then n else ow j, e163, fun c0 => cl_let B d c0 n (m.fV n), ref, ?_, ?_, ?_⟩
  · rw [← hcE]
    refine gone_tr (q := e) hj hs ks hn hn f1 ⟨gNkd.trans (g1kd.trans gMkd), ?_, gNpl.trans (g1pl.trans gMpl), gNnu.trans (g1nu.trans gMnu), gNcs.trans (g1cs.trans gMcs), gNit.trans (g1it.trans gMit), gNnx.trans (g1nx.trans gMnx), gNK.trans (g1K.trans gMK), gNE.trans (g1E.trans gME), gNnm.trans (g1nm.trans gMnm), gNfn.trans g1fn, gNim.trans (g1im.trans gMim), gNfi.trans (g1fi.trans gMfi), gNse.trans (g1se.trans gMse)⟩ (fun b hb => ?_) (fun g => absurd rfl g) ⟨gEcc.trans (ucc.trans (gRcc.trans (gGcc.trans gCcc))), gEvn.trans (uvn.trans (gRvn.trans (gGvn.trans gCvn))), gEvx.trans (uvx.trans (gRvx.trans (gGvx.trans gCvx))), gEkd.trans (ukd.trans (gRkd.trans (gGkd.trans gCkd))), ?_, gEhe.trans (uhe.trans (gRhe.trans (gGhe.trans gChe))), gEvs.trans (uvs.trans (gRvs.trans (gGvs.trans gCvs))), gEhy.trans (uhy.trans (gRhy.trans (gGhy.trans gChy))), ?_, gEtl.trans (utl.trans (gRtl.trans (gGtl.trans gCtl))), gEdp.trans (udp.trans (gRdp.trans (gGdp.trans gCdp))), gEpa.trans (upa.trans (gRpa.trans (gGpa.trans gCpa))), gEK.trans (uK.trans (gRK.trans (gGK.trans gCK))), gEar.trans (uar.trans (gRar.trans (gGar.trans gCar))), gEcn.trans (ucn.trans (gRcn.trans (gGcn.trans gCcn))), fun r hr => by rw [gElg, u10 r hr, gRlg, gGlg, u1_o _ _ hr, gClg]⟩ ⟨?_, ?_, fun b hb => ?_, fun b b0 hb => ?_, ?_, fun b tb hb => ?_, ?_, ?_, fun _ => ?_, fun g => by omega⟩
    · rw [gNrt, g1rt, gMrt]
    · rw [gNky, g1ky, gMky, gNfV, g1fV, gMfV, gNlV, g1lV, gMlV, gEck, uck, gRck, gGck, gCck, gEnv, unv, gRnv, gGnv, gCnv, gEf1, uf1, gRf1, gGf1, gCf1, gEl1, ul1, gRl1, gGl1, gCl1, u1_o _ _ hb, u1_o _ _ hb, u1_o _ _ hb]
      exact ⟨rfl, rfl, rfl, rfl, rfl, rfl, rfl⟩
    · rw [gEro, u2, gRro, gGro, gCro, u1_u1]
    · rw [gEla, u3, gRla, gGla, gCla, u1_u1]
    · rw [gEP, u1']; exact y1
    · rw [gNP]; exact BP_str bpQ eb rb
    · have hb2 := (t2a b).mpr hb
      obtain ⟨bn, tb⟩ := t2b b hb2
      rw [gNP, gEP, u1']
      obtain ⟨v1, v2, v3⟩ := y5 b hb2
      refine ⟨v1, v2, v3, fun _ => ?_⟩
      rw [gEcz]
      rcases hb2 with h | h
      · by_cases g : b = e
        · rw [g, u8, y4]
        · rw [u7 b h g, y3 b h g]
      · have hne : T2 b ≠ s + 1 := by rw [h]; exact Ne.symm kne
        rw [u6 b hne, y2 b hne, gRcz, gGcz, gCcz]
        exact jz.2.1 b (by rw [tb]; exact κ0) (by rw [tb, Nat.add_sub_cancel, k1]; exact Nat.le_refl 1)
    · have bn : b ≠ n := fun g => hb (by rw [g]; exact hn)
      obtain ⟨v1, v2, v3⟩ := y7 b (by rw [t2o b hb]; exact hb)
      rw [gNP, v1, v2, v3 (nr b b0 hb), m1P]
      refine ⟨?_, rfl, ?_⟩
      · show u1 m.P.1 n _ b = _
        exact u1_o _ _ bn
      · show u1 m.P.2.2 l 0 b = _
        exact u1_o _ _ (nl b hb)
    · rw [gNP, (y7 n t2n).1, m1P]
      exact u1_s _ _ _
    · have b0 := jt.1.n0 tb
      have h2b : T2 b ≠ s + 1 := by rw [t2o b hb]; exact hb
      obtain ⟨v1, v2, v3⟩ := y6 b h2b
      rw [gEP, u1', v1, v2, v3 (nr b b0 hb), c1P, gEcz, u6 b h2b, gRcz, gGcz, gCcz]
      refine ⟨rfl, rfl, ?_, rfl, y2 b h2b⟩
      show u1 c.P.2.2 l 0 b = _
      exact u1_o _ _ (nl b hb)
    · intro _
      rw [gEP, u1']
      exact ⟨(t2a e).mp (Or.inl te), y8⟩
    · intro b hb hub
      rw [gEP, u1'] at hub
      exact y9 b ((t2a b).mpr hb) hub
    · rw [gElg]
      omega
  · rw [← hcE]
    refine hM.mv (δ := k + tc) (gEpu.trans (upu.trans (gRpu.trans (gGpu.trans gCpu)))) ?_ (fun r hr => by rw [gEst, u5 r hr, gRst, gGst, gCst]) (gNpu.trans (g1pu.trans gMpu)) (gNst.trans (g1st.trans gMst)) (gNK.trans (g1K.trans gMK)) (by rw [gNsp, j4, g1sp, gMsp, Nat.add_assoc]) (by rw [gNsp, j4, g1sp, gMsp]; omega) ⟨gEfk.trans (ufk.trans (gRfk.trans (gGfk.trans gCfk))), gEfv.trans (ufv.trans (gRfv.trans (gGfv.trans gCfv))), gNfk.trans (g1fk.trans gMfk), gNfv.trans (g1fv.trans gMfv), ?_, gNse.trans (g1se.trans gMse), gEcn.trans (ucn.trans (gRcn.trans (gGcn.trans gCcn)))⟩ (gEN.trans (uN.trans (gRN.trans (gGN.trans gCN)))) (gNN.trans (g1N.trans gMN)) (gErO.trans (urO.trans (gRrO.trans (gGrO.trans gCrO)))) (gErP.trans (urP.trans (gRrP.trans (gGrP.trans gCrP)))) (gErT.trans (urT.trans (gRrT.trans (gGrT.trans gCrT)))) (gErQ.trans (urQ.trans (gRrQ.trans (gGrQ.trans gCrQ)))) (gNrO.trans (g1rO.trans gMrO)) (gNrP.trans (g1rP.trans gMrP)) (gNrT.trans (g1rT.trans gMrT)) (gNrQ.trans (g1rQ.trans gMrQ))
    · rw [gEst, u4, gRst, gGst, gCst]
    · rw [gEE, gNE, g1E, gME, hM.2.2.1.2.2.1]
  · exact ⟨by rw [hM.2.2.1.2.2.1]; exact f10, uE.trans (gRE.trans (gGE.trans gCE)), gNK.trans (g1K.trans gMK), gNkd.trans (g1kd.trans gMkd), gNN.trans (g1N.trans gMN), gNst.trans (g1st.trans gMst), gNnu.trans (g1nu.trans gMnu), gNpl.trans (g1pl.trans gMpl), fun _ => rfl⟩
end LoseT
