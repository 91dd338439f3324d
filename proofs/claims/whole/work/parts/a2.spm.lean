-- split: the middle
def cNw (c : CS) (t : Nat) : CS := (c.sar (u1 c.ar t (t + 1))).sK (t + 1)
theorem HcNw (c : CS) (t : Nat) : (cNw c t).cc = c.cc ∧ (cNw c t).vn = c.vn ∧ (cNw c t).vx = c.vx ∧ (cNw c t).kd = c.kd ∧ (cNw c t).ro = c.ro ∧ (cNw c t).he = c.he ∧ (cNw c t).vs = c.vs ∧ (cNw c t).hy = c.hy ∧ (cNw c t).la = c.la ∧ (cNw c t).tl = c.tl ∧ (cNw c t).dp = c.dp ∧ (cNw c t).pa = c.pa ∧ (cNw c t).K = t + 1 ∧ (cNw c t).ar = u1 c.ar t (t + 1) ∧ (cNw c t).cn = c.cn ∧ (cNw c t).lg = c.lg ∧ (cNw c t).P = c.P ∧ (cNw c t).ck = c.ck ∧ (cNw c t).cz = c.cz ∧ (cNw c t).l1 = c.l1 ∧ (cNw c t).f1 = c.f1 ∧ (cNw c t).nv = c.nv ∧ (cNw c t).pu = c.pu ∧ (cNw c t).st = c.st ∧ (cNw c t).fk = c.fk ∧ (cNw c t).fv = c.fv ∧ (cNw c t).E = c.E ∧ (cNw c t).N = c.N ∧ (cNw c t).rO = c.rO ∧ (cNw c t).rP = c.rP ∧ (cNw c t).rT = c.rT ∧ (cNw c t).rQ = c.rQ := ⟨rfl, rfl, rfl, rfl, rfl, rfl, rfl, rfl, rfl, rfl, rfl, rfl, rfl, rfl, rfl, rfl, rfl, rfl, rfl, rfl, rfl, rfl, rfl, rfl, rfl, rfl, rfl, rfl, rfl, rfl, rfl, rfl⟩
theorem HmBeg (m : MS) (k pot : Nat) : (mBeg m k pot).kd = u1 m.kd m.K k ∧ (mBeg m k pot).rt = u1 m.rt m.K 0 ∧ (mBeg m k pot).pl = u1 m.pl m.K (if 4 ≤ k then 4 else 0) ∧ (mBeg m k pot).nu = u1 m.nu m.K 0 ∧ (mBeg m k pot).cs = m.cs ∧ (mBeg m k pot).it = m.it ∧ (mBeg m k pot).nx = m.nx ∧ (mBeg m k pot).K = m.K + 1 ∧ (mBeg m k pot).E = m.E ∧ (mBeg m k pot).nm = m.nm ∧ (mBeg m k pot).fn = m.fn ∧ (mBeg m k pot).im = m.im ∧ (mBeg m k pot).fi = m.fi ∧ (mBeg m k pot).se = m.se ∧ (mBeg m k pot).P = m.P ∧ (mBeg m k pot).ky = m.ky ∧ (mBeg m k pot).lV = m.lV ∧ (mBeg m k pot).fV = m.fV ∧ (mBeg m k pot).pu = u1 m.pu m.K (nI pot).toInt64 ∧ (mBeg m k pot).st = u1 m.st m.K 0 ∧ (mBeg m k pot).sp = m.sp ∧ (mBeg m k pot).fk = m.fk ∧ (mBeg m k pot).fv = m.fv ∧ (mBeg m k pot).N = m.N ∧ (mBeg m k pot).rO = m.rO ∧ (mBeg m k pot).rP = m.rP ∧ (mBeg m k pot).rT = m.rT ∧ (mBeg m k pot).rQ = m.rQ := ⟨rfl, rfl, rfl, rfl, rfl, rfl, rfl, rfl, rfl, rfl, rfl, rfl, rfl, rfl, rfl, rfl, rfl, rfl, rfl, rfl, rfl, rfl, rfl, rfl, rfl, rfl, rfl, rfl⟩
def SplOK (L : Nat) (xs : Nat → Int32) (m : MS) (c : CS) (d : DS) (B1 : AH) (V R : Nat → List Nat) (FN FI : List Nat) (ow : Nat → Nat) (s t n y : Nat) (k : Int64) : Prop :=
  ∃ (B2 : AH) (d' : DS) (c5 : CS) (m5 : MS) (T2 z' : Nat → Nat),
    (d'.sa (t + 1) = y ∧ d'.sa (s + 1) = d.sa (s + 1)) ∧
    (if c.ro s = 0 then some (cl B1 d c, none) else X L xs 177 19 [.ref (d.sa (s + 1)), .long k, .null, .ref y, .ref (d.ph (c.ro s))] [] (cl B1 d c)) = some (cl B2 d' c5, none) ∧
    (Ext B1 B2 ∧ nn B2 ≤ nn B1 + 1 ∧ sl B2 ≤ sl B1 + 2 ∧ ∀ m0, ml B1 m0 = B1 → ml B2 m0 = B2) ∧
    (∀ h, MB h → ∀ (w : SCT) (pr : Int32), ∃ l7 l8 : Value, (if n = 0 then X L xs 86 218 [.ref 8, .int (nI s), .long k, .null, .int pr, .int (en n), .int (nI t), .null, .null] [] (ml h ((mBeg m 1 0).sW w)) else X L xs 86 90 [.ref 8, .int (nI s), .long k, .null, .int pr, .int (en n), .int (nI t), .null, .null] [] (ml h ((mBeg m 1 0).sW w))) = X L xs 86 218 [.ref 8, .int (nI s), .long k, .null, .int pr, .int (en n), .int (nI t), l7, l8] [] (ml h (m5.sW w))) ∧
    JJ m5 (cNw c5 t) d' B2 T2 z' V (u1 R t []) FN FI ow ∧
    (c5.pu = u1 c.pu t 0 ∧ c5.st = u1 c.st t 0 ∧ c5.K = c.K ∧ c5.ar = c.ar ∧ c5.fk = c.fk ∧ c5.fv = c.fv ∧ c5.E = c.E ∧ c5.N = c.N ∧ c5.rO = c.rO ∧ c5.rP = c.rP ∧ c5.rT = c.rT ∧ c5.rQ = c.rQ ∧ c5.cn = c.cn) ∧
    (m5.pu = u1 m.pu t (nI 0).toInt64 ∧ m5.st = u1 m.st t 0 ∧ m5.kd = u1 m.kd t 1 ∧ m5.K = t + 1 ∧ m5.nu = u1 m.nu t 0 ∧ m5.pl = u1 m.pl t 0 ∧ m5.fk = m.fk ∧ m5.fv = m.fv ∧ m5.E = m.E ∧ m5.N = m.N ∧ m5.rO = m.rO ∧ m5.rP = m.rP ∧ m5.rT = m.rT ∧ m5.rQ = m.rQ ∧ m5.sp = m.sp ∧ m5.se = m.se)
section Spm
variable (L : Nat) (xs : Nat → Int32)
set_option maxHeartbeats 8000000 in
theorem split_mid {m : MS} {c : CS} {d : DS} {B B1 : AH} {T z : Nat → Nat} {V R : Nat → List Nat} {FN FI : List Nat} {ow : Nat → Nat} (hj0 : JJ m c d B T z V R FN FI ow) {s t n p : Nat} (hs : s < m.K) (ks : m.kd s = 1) (hKt : m.K = t) (ht40 : t < 40) (hF : NwF B B1 1 p) (hn1 : n ≠ 0 → T n = s + 1 ∧ c.ro s = n) (hn0 : n = 0 → c.ro s = 0) (k : Int64) : SplOK L xs m c d B1 V R FN FI ow s t n (nn B + 1) k := by
  obtain ⟨⟨x1, x2, x3, x4, x5⟩, ⟨y12, y14, y15, y16, y17, y20, y21, y22, y13, y18, y19, y23⟩, hp⟩ := hF
  have hj := hj0.ext x1
  obtain ⟨jb, js, jt, jr, jp, jd, jv, ji, jf, jw, jh, jz, jl⟩ := id hj
  have hw := jb.2.2.2.2.2
  have st : s ≠ t := by omega
  have κ0 : s + 1 ≠ 0 := Nat.succ_ne_zero s
  have τ0 : t + 1 ≠ 0 := Nat.succ_ne_zero t
  have y0 : nn B + 1 ≠ 0 := Nat.succ_ne_zero _
  have hsn : d.sid (d.sa (t + 1)) ≠ t + 1 := fun q => by
    have := (js.2.2.1 t).mp q
    omega
  have hy := hj0.1.2.2.1.out (show nn B < nn B + 1 by omega)
  have hcld : Cld d c := hj.cld rfl rfl rfl rfl rfl rfl (fun r hr => by
    by_cases l0 : c.la r = 0
    · exact Or.inl l0
    · have k0 : m.kd r = 0 := by
        rcases Nat.eq_zero_or_pos (m.kd r) with q | q
        · exact q
        · exact absurd (jl.1 r hr (by omega)) l0
      exact Or.inr (by rw [(jl.2.1 r hr k0 l0).1]; exact Nat.succ_ne_zero r))
  obtain ⟨c1, hN⟩ := NS_ex c t 1 p
  have eas := cl_as (h := B1) hN hw hcld hy hsn y12 y14 y15 y16 y17 y20 y21 y22 y13 y18 y19 y23
  obtain ⟨⟨nkd, nhe, npu, nst, nvs, ndp, nlg, nhy, nro, nla, ntl, npa⟩, nck, ncc, nP, ncz, nnv, nf1, nl1, nvn, nvx, nK, nar, ncn, nE, nfk, nfv, nN, nrO, nrP, nrT, nrQ⟩ := hN
  obtain ⟨d', hd'⟩ : ∃ d', d' = d.as (t + 1) (nn B + 1) := ⟨_, rfl⟩
  have hsa : d'.sa (t + 1) = nn B + 1 := by rw [hd']; exact u1_s _ _ _
  have hsas : d'.sa (s + 1) = d.sa (s + 1) := by rw [hd']; exact u1_o _ _ (by omega)
  have hph : d'.ph = d.ph := by rw [hd']; rfl
  rw [← hd'] at eas
  obtain ⟨cv, hcv⟩ : ∃ x, x = cNw c1 t := ⟨_, rfl⟩
  have gv := HcNw c1 t
  rw [← hcv] at gv
  obtain ⟨gvcc, gvvn, gvvx, gvkd, gvro, gvhe, gvvs, gvhy, gvla, gvtl, gvdp, gvpa, gvK, gvar, gvcn, gvlg, gvP, gvck, gvcz, gvl1, gvf1, gvnv, gvpu, gvst, gvfk, gvfv, gvE, gvN, gvrO, gvrP, gvrT, gvrQ⟩ := gv
  obtain ⟨m2, hm2⟩ : ∃ x, x = mBeg m 1 0 := ⟨_, rfl⟩
  have gm := HmBeg m 1 0
  rw [← hm2, hKt] at gm
  obtain ⟨gmkd, gmrt, gmpl, gmnu, gmcs, gmit, gmnx, gmK, gmE, gmnm, gmfn, gmim, gmfi, gmse, gmP, gmky, gmlV, gmfV, gmpu, gmst, gmsp, gmfk, gmfv, gmN, gmrO, gmrP, gmrT, gmrQ⟩ := gm
  have gmpl : m2.pl = u1 m.pl t 0 := gmpl
  have hj2 : JJ m2 cv d' B1 T z V (u1 R t []) FN FI ow := by
    rw [hd']
    exact make_JJ (m := m) (m' := m2) (c := c) (c' := cv) (y := nn B + 1) (p := p) (k := 1) (n := t) hj0 hKt ht40 (by decide) x1 ⟨by omega, x2⟩ x5 hp ⟨gmkd, gmrt, gmpl, gmnu, gmky, gmP, gmcs, gmfV, gmlV, gmit, gmnx, gmK, gmE, gmnm, gmfn, gmim, gmfi, gmse⟩ ⟨⟨gvkd.trans nkd, gvro.trans nro, gvhe.trans nhe, gvvs.trans nvs, gvla.trans nla, gvtl.trans ntl, gvdp.trans ndp, gvlg.trans nlg, gvhy.trans nhy, gvpa.trans npa⟩, gvck.trans nck, gvcc.trans ncc, gvP.trans nP, gvcz.trans ncz, gvnv.trans nnv, gvf1.trans nf1, gvl1.trans nl1, gvvn.trans nvn, gvvx.trans nvx, gvK, by rw [gvar, nar], gvcn.trans ncn⟩
  by_cases n0 : n = 0
  · refine ⟨B1, d', c1, m2, T, z, ⟨hsa, hsas⟩, by rw [if_pos (hn0 n0), eas], ⟨Ext.rfl' B1, by omega, by omega, fun m0 h => h⟩, fun h hh w pr => ⟨.null, .null, by rw [if_pos n0, ← hm2]⟩, by rw [← hcv]; exact hj2, ⟨npu, nst, nK, nar, nfk, nfv, nE, nN, nrO, nrP, nrT, nrQ, ncn⟩, ⟨gmpu, gmst, gmkd, gmK, gmnu, gmpl, gmfk, gmfv, gmE, gmN, gmrO, gmrP, gmrT, gmrQ, gmsp, gmse⟩⟩
  · obtain ⟨hn, hro⟩ := hn1 n0
    obtain ⟨jb2, js2, jt2, jr2, jp2, jd2, jv2, ji2, jf2, jw2, jh2, jz2, jl2⟩ := id hj2
    have hw' := jb2.2.2.2.2.2
    have hs2 : s < m2.K := by rw [gmK]; omega
    have ht2 : t < m2.K := by rw [gmK]; omega
    have ks2 : m2.kd s = 1 := by rw [gmkd, u1_o _ _ st]; exact ks
    have kt2 : m2.kd t = 1 := by rw [gmkd, u1_s]
    obtain ⟨h1, h2, h3, h4, h5, h6⟩ := hj2.kin hs2
    obtain ⟨t1, t2, t3, t4, t5, t6⟩ := hj2.kin ht2
    have ts : tg B1 (d'.sa (s + 1)) = 7 := by rw [h6, ks2]; rfl
    have tt : tg B1 (d'.sa (t + 1)) = 7 := by rw [t6, kt2]; rfl
    have eP : c1.P = cv.P := gvP.symm
    have hro1 : c1.ro s = n := by rw [nro, u1_o _ _ st]; exact hro
    have hrov : cv.ro s = n := by rw [gvro]; exact hro1
    have tn : T n ≠ 0 := by rw [hn]; exact κ0
    have jrs := jr2 s hs2
    have hu : cv.P.2.2 n = 0 := by
      have := (jrs.2.2.1 (by rw [hrov]; exact n0)).2
      rw [hrov] at this
      exact this
    have uq : ∀ x, T x = s + 1 → cv.P.2.2 x = 0 → x = n := fun x hx h => (jrs.2.2.2 x hx h).trans hrov
    have noT : ∀ x, T x ≠ t + 1 := fun x g => by
      have := (jt.2.2 x (by rw [g]; exact τ0)).1
      omega
    have agv : ∀ b, T b = s + 1 → m2.P.1 b = cv.P.1 b ∧ m2.P.2.1 b = cv.P.2.1 b ∧ m2.P.2.2 b = cv.P.2.2 b ∧ m2.ky b = cv.ck b ∧ cv.cz b = z b := fun b hb => by
      have tb : T b ≠ 0 := by rw [hb]; exact κ0
      have pp := jp2.2 b tb
      have kb : m2.kd (T b - 1) = 1 := by rw [hb, Nat.add_sub_cancel]; exact ks2
      exact ⟨pp.1, pp.2.1, pp.2.2.2 (by omega), pp.2.2.1, jz2.2.1 b tb (by omega)⟩
    obtain ⟨lt, hlt⟩ : ∃ b : Bool, b = decide (cv.ck n < k) := ⟨_, rfl⟩
    have ckv : c1.ck = cv.ck := gvck.symm
    obtain ⟨a, hea⟩ : ∃ a, a = if cv.ck n < k then n else cv.P.1 n := ⟨_, rfl⟩
    obtain ⟨r, her⟩ : ∃ r, r = if cv.ck n < k then cv.P.2.1 n else n := ⟨_, rfl⟩
    have nvV : ∀ x, T x ≠ 0 → cv.nv x = (V x).length := fun x hx => (jv2 x hx).2.2.2.2.2.1
    have smV : ∀ u, u ≠ 0 → ∀ T' : Nat → Nat, TN T' → (∀ x, T' x = u → T x ≠ 0) → Sm T' u cv.nv = Sm T' u (fun x => (V x).length) := fun u u0 T' hT' h => Sm_congr hT' u0 (fun x hx => nvV x (h x hx))
    obtain ⟨c5, T2, z', e177, ⟨s1, s2, s3, s4, s5, s6, s7⟩, ⟨w1, w2, w3, w4, w5, w6, w7, w8⟩, ⟨v1, v2, v3, v4, v5, v6⟩, us⟩ := c177_c L xs (B := B1) (d := d') (s := s) (t := t) (n := n) hw' jb2.2.2.1 jb2.2.2.2.1 h2 ts t2 tt st c1 (T := T) (z := z) (by rw [eP]; exact jt2.1) jt2.2.1 hj2.hD hn hro1 (by rw [eP]; exact hu) (by rw [eP]; exact uq) noT (fun x hx => hj2.zle hx) (fun x hx => by rw [← gvcz]; exact (agv x hx).2.2.2.2) (by rw [nhe, u1_s]) (by rw [nvs, u1_s]) (by rw [nlg, u1_s]) (by rw [← gvhe]; exact (jz2.1 s hs2).1 (by omega)) (by rw [← gvvs, ← gvnv, smV (s + 1) κ0 T jt2.2.1 (fun x hx => by rw [hx]; exact κ0)]; exact (jz2.1 s hs2).2.1 (by omega)) (by rw [← gvlg]; exact (jz2.1 s hs2).2.2.1 ks2) k (a := a) (r := r) (by rw [ckv, eP]; exact hea) (by rw [ckv, eP]; exact her)
    obtain ⟨ucc, uvn, uvx, ukd, uhy, ula, utl, udp, upa, uK, uar, ucn, uck, ul1, uf1, unv, upu, ust, ufk, ufv, uE, uN, urO, urP, urT, urQ⟩ := us
    rw [eP] at v1 v2 v3
    rw [ckv] at v1 v2
    obtain ⟨c5v, hc5v⟩ : ∃ x, x = cNw c5 t := ⟨_, rfl⟩
    have g5 := HcNw c5 t
    rw [← hc5v] at g5
    obtain ⟨g5cc, g5vn, g5vx, g5kd, g5ro, g5he, g5vs, g5hy, g5la, g5tl, g5dp, g5pa, g5K, g5ar, g5cn, g5lg, g5P, g5ck, g5cz, g5l1, g5f1, g5nv, g5pu, g5st, g5fk, g5fv, g5E, g5N, g5rO, g5rP, g5rT, g5rQ⟩ := g5
    obtain ⟨b1, b2, b3⟩ := bWk_ext B1 0 0
    obtain ⟨m5, hm5⟩ : ∃ x, x = mCt m2 s t n a r lt := ⟨_, rfl⟩
    have gp := HmCt m2 s t n a r lt
    rw [← hm5] at gp
    obtain ⟨gpkd, gprt, gppl, gpnu, gpcs, gpit, gpnx, gpK, gpE, gpnm, gpfn, gpim, gpfi, gpse, gpP, gpky, gplV, gpfV, gppu, gpst, gpsp, gpfk, gpfv, gpN, gprO, gprP, gprT, gprQ⟩ := gp
    have kyn : m2.ky n = cv.ck n := (agv n hn).2.2.2.1
    have nl : n ≤ 20002 := jt2.2.1.2 n tn
    have mP1 : m5.P.1 = if cv.ck n < k then m2.P.1 else u1 m2.P.1 n 0 := by
      rw [gpP]
      show (if lt then _ else _) = _
      rw [hlt]
      by_cases g : cv.ck n < k
      · rw [decide_eq_true g, if_pos g]; rfl
      · rw [decide_eq_false g, if_neg g]; rfl
    have mP2 : m5.P.2.1 = if cv.ck n < k then u1 m2.P.2.1 n 0 else m2.P.2.1 := by
      rw [gpP]
      show (if lt then _ else _) = _
      rw [hlt]
      by_cases g : cv.ck n < k
      · rw [decide_eq_true g, if_pos g]; rfl
      · rw [decide_eq_false g, if_neg g]; rfl
    have mP3 : m5.P.2.2 = uCt m2.P.2.2 a r := by rw [gpP]
    have tT : ∀ x, T2 x = 0 ↔ T x = 0 := fun x => by
      by_cases g : T x = s + 1
      · rcases (w8 x).mp g with h | h
        · rw [h, g]
        · rw [h, g]; exact ⟨fun q => absurd q τ0, fun q => absurd q κ0⟩
      · rw [w5 x g]
    have nar' : ∀ b, b ≠ 0 → T b ≠ s + 1 → ¬ (b = a ∨ b = r) := fun b b0 hb h => by
      rcases h with g | g
      · have a0 : a ≠ 0 := by rw [← g]; exact b0
        exact hb ((w8 b).mpr (Or.inl (by rw [g]; exact w3 a0)))
      · have r0 : r ≠ 0 := by rw [← g]; exact b0
        exact hb ((w8 b).mpr (Or.inr (by rw [g]; exact w4 r0)))
    refine ⟨bWk B1 0 0, d', c5, m5, T2, z', ⟨hsa, hsas⟩, ?_, ⟨b1, by omega, by omega, fun m0 h => by rw [bWk_ml B1 m0 0 0 jb.2.2.1.1, h]⟩, fun h hh w pr => ?_, ?_, ⟨upu.trans npu, ust.trans nst, uK.trans nK, uar.trans nar, ufk.trans nfk, ufv.trans nfv, uE.trans nE, uN.trans nN, urO.trans nrO, urP.trans nrP, urT.trans nrT, urQ.trans nrQ, ucn.trans ncn⟩, ⟨gppu.trans gmpu, gpst.trans gmst, gpkd.trans gmkd, gpK.trans gmK, gpnu.trans gmnu, gppl.trans gmpl, gpfk.trans gmfk, gpfv.trans gmfv, gpE.trans gmE, gpN.trans gmN, gprO.trans gmrO, gprP.trans gmrP, gprT.trans gmrT, gprQ.trans gmrQ, gpsp.trans gmsp, gpse.trans gmse⟩⟩
    · rw [if_neg (by rw [hro]; exact n0), hro, eas, ← hsas, ← hsa, ← hph]
      exact e177
    · obtain ⟨l7, l8, e⟩ := m_86c L xs hh (m2.sW w) (s := s) (t := t) (n := n) (by omega) ht40 (by omega) nl jp2.1 k (a := a) (r := r) (by
        show a = if m2.ky n < k then n else m2.P.1 n
        rw [kyn, (agv n hn).1]; exact hea) (by
        show r = if m2.ky n < k then m2.P.2.1 n else n
        rw [kyn, (agv n hn).2.1]; exact her) pr
      refine ⟨l7, l8, ?_⟩
      rw [if_neg n0, ← hm2, e]
      have e1 : mCt (m2.sW w) s t n a r (decide ((m2.sW w).ky n < k)) = m5.sW w := by
        show mCt (m2.sW w) s t n a r (decide (m2.ky n < k)) = m5.sW w
        rw [kyn, ← hlt, hm5]
        rfl
      rw [e1]
    · rw [← hc5v]
      have hj3 := hj2.ext b1
      refine move_tr (m := m2) (m' := m5) (c := cv) (c' := c5v) (T := T) (T' := T2) (z := z) (z' := z') hj3 hs2 ht2 ks2 kt2 tT (fun u u1' u2 x => ?_) ⟨gpkd, gppl, gpnu, gpcs, gpit, gpnx, gpK, gpE, gpnm, gpfn, gpim, gpfi, gpse, gpky, gplV, gpfV⟩ ⟨g5cc.trans (ucc.trans gvcc.symm), g5vn.trans (uvn.trans gvvn.symm), g5vx.trans (uvx.trans gvvx.symm), g5kd.trans (ukd.trans gvkd.symm), g5tl.trans (utl.trans gvtl.symm), g5dp.trans (udp.trans gvdp.symm), g5pa.trans (upa.trans gvpa.symm), g5K.trans gvK.symm, by rw [g5ar, uar, gvar], g5cn.trans (ucn.trans gvcn.symm), g5ck.trans (uck.trans gvck.symm), g5l1.trans (ul1.trans gvl1.symm), g5f1.trans (uf1.trans gvf1.symm), g5nv.trans (unv.trans gvnv.symm)⟩ (fun u u1' u2 => ?_) (fun u hu' => ?_) (by rw [g5P]; exact w1) (fun b => ?_) (fun x hx => ?_) (fun b b0 hb1 hb2 => ?_) (fun b tb hb1 hb2 => ?_) (fun u hu' => ?_)
      · by_cases g : T x = s + 1
        · rw [g]
          rcases (w8 x).mp g with h | h
          · rw [h]
          · rw [h]; exact ⟨fun q => by omega, fun q => by omega⟩
        · rw [w5 x g]
      · obtain ⟨a1, a2, a3⟩ := s7 u u1' u2
        rw [gprt, g5ro, g5he, g5vs, g5lg, g5hy, g5la, a1, a2, a3, uhy, ula, v4, u1_o _ _ u2, u1_o _ _ u1', u1_o _ _ u2, u1_o _ _ u1', gvro, gvhe, gvvs, gvlg, gvhy, gvla]
        exact ⟨rfl, rfl, rfl, rfl, rfl, rfl, rfl⟩
      · rw [g5la, ula, ← gvla]
        rcases hu' with g | g
        · rw [g]; exact jl2.1 s hs2 (by omega)
        · rw [g]; exact jl2.1 t ht2 (by omega)
      · refine ⟨?_, ?_, ?_⟩
        · rw [mP1]
          by_cases g : cv.ck n < k
          · rw [if_pos g]; exact (jp2.1 b).1
          · rw [if_neg g]
            by_cases g2 : b = n
            · rw [g2, u1_s]; omega
            · rw [u1_o _ _ g2]; exact (jp2.1 b).1
        · rw [mP2]
          by_cases g : cv.ck n < k
          · rw [if_pos g]
            by_cases g2 : b = n
            · rw [g2, u1_s]; omega
            · rw [u1_o _ _ g2]; exact (jp2.1 b).2.1
          · rw [if_neg g]; exact (jp2.1 b).2.1
        · rw [mP3]; exact uCt_le (fun b => (jp2.1 b).2.2) a r b
      · have tx := (w8 x).mpr hx
        have x0 := jt2.1.n0 (show T x ≠ 0 by rw [tx]; exact κ0)
        obtain ⟨a1, a2, a3, -, -⟩ := agv x tx
        rw [g5P, g5cz, mP1, mP2, mP3, v1, v2, v3 x x0, uCt_b _ _ _ x0, a3]
        refine ⟨?_, ?_, rfl, v5 x tx⟩
        · by_cases g : cv.ck n < k
          · rw [if_pos g, if_pos g]; exact a1
          · rw [if_neg g, if_neg g]
            by_cases g2 : x = n
            · rw [g2, u1_s, u1_s]
            · rw [u1_o _ _ g2, u1_o _ _ g2]; exact a1
        · by_cases g : cv.ck n < k
          · rw [if_pos g, if_pos g]
            by_cases g2 : x = n
            · rw [g2, u1_s, u1_s]
            · rw [u1_o _ _ g2, u1_o _ _ g2]; exact a2
          · rw [if_neg g, if_neg g]; exact a2
      · have bn : b ≠ n := fun g => hb1 (by rw [g]; exact hn)
        rw [mP1, mP2, mP3, uCt_b _ _ _ b0, if_neg (nar' b b0 hb1)]
        refine ⟨?_, ?_, rfl⟩
        · by_cases g : cv.ck n < k
          · rw [if_pos g]
          · rw [if_neg g, u1_o _ _ bn]
        · by_cases g : cv.ck n < k
          · rw [if_pos g, u1_o _ _ bn]
          · rw [if_neg g]
      · have bn : b ≠ n := fun g => hb1 (by rw [g]; exact hn)
        have b0 := jt2.1.n0 tb
        obtain ⟨a1, a2⟩ := v6 b hb1
        rw [g5P, g5cz, v1, v2, v3 b b0, if_neg (nar' b b0 hb1), a1, a2, ← gvcz]
        refine ⟨?_, ?_, rfl, rfl, rfl⟩
        · by_cases g : cv.ck n < k
          · rw [if_pos g]
          · rw [if_neg g, u1_o _ _ bn]
        · by_cases g : cv.ck n < k
          · rw [if_pos g, u1_o _ _ bn]
          · rw [if_neg g]
      · have inT : ∀ x, (T2 x = s + 1 ∨ T2 x = t + 1) → T x ≠ 0 := fun x hx => by rw [(w8 x).mpr hx]; exact κ0
        have env : c1.nv = cv.nv := gvnv.symm
        rw [env] at s3 s4
        rcases hu' with g | g
        · rw [g, gprt, g5ro, v4, u1_o _ _ st, u1_s, u1_o _ _ st, u1_s, g5P, g5he, g5vs, g5lg]
          refine ⟨rfl, fun a0 => ⟨w3 a0, ?_⟩, w6, s1, ?_, s5⟩
          · rw [v3 a a0, if_pos (Or.inl rfl)]
          · rw [s3]; exact smV (s + 1) κ0 T2 w2 (fun x hx => inT x (Or.inl hx))
        · rw [g, gprt, g5ro, v4, u1_s, u1_s, g5P, g5he, g5vs, g5lg]
          refine ⟨rfl, fun r0 => ⟨w4 r0, ?_⟩, w7, s2, ?_, s6⟩
          · rw [v3 r r0, if_pos (Or.inr rfl)]
          · rw [s4]; exact smV (t + 1) τ0 T2 w2 (fun x hx => inT x (Or.inr hx))
end Spm
