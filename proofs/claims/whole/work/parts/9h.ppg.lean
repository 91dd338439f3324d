-- pop
section Ppg
variable (L : Nat) (xs : Nat → Int32)
set_option maxHeartbeats 4000000 in
theorem pop_go {i : Nat} {B : AH} {m : MS} {c : CS} {d : DS} (hI : Inv i B m c d) {s : Nat} (hs : s < m.K) (ks : 2 ≤ m.kd s ∧ m.kd s ≤ 3) (r0 : c.ro s ≠ 0) (hN : m.N < 20000)
    (cpre : XM L xs 11 [.ref 1, .int (nI s)] (cl B d c) = X L xs 11 39 [.ref 1, .int (nI s), .ref (d.sa (s + 1)), .null, .null] [] (cl B d c))
    (mpre : ∀ h, MB h → XM L xs 94 [.ref 8, .int (nI s)] (ml h m) = X L xs 94 47 [.ref 8, .int (nI s), .null, .null] [] (ml h m)) : Ans L xs i B m c d 11 94 [.int (nI s)] := by
  obtain ⟨e0, ja, jq, T, z, V, R, FN, FI, ow, hj⟩ := id hI
  obtain ⟨jb, js, jt, jr, jp, jd, jv, ji, jf, jw, jh, jz, jl⟩ := id hj
  obtain ⟨h1, h2, h3, h4, h5, h6⟩ := hj.kin hs
  obtain ⟨p1, p2, p3, p4⟩ := id jb.1
  obtain ⟨ja1, ⟨f1, f2, f3, f4, f5⟩, ⟨f6, f7, f8, f9, f10, f11⟩, tq, htq⟩ := id ja
  have hw := jb.2.2.2.2.2
  have hK := hj.K
  have κ0 : s + 1 ≠ 0 := Nat.succ_ne_zero s
  have ts : tg B (d.sa (s + 1)) = 3 := (hj.tgs hs).2.2.1 ks.1 ks.2
  obtain ⟨ha, hau⟩ := (jr s hs).2.2.1 r0
  have er : m.rt s = c.ro s := ((jr s hs).1 ks.2).1
  have hhe0 := hj.he hs ks.2
  generalize hae : c.ro s = a at *
  have ta : T a ≠ 0 := by rw [ha]; exact κ0
  have ka : 2 ≤ m.kd (T a - 1) := by rw [ha, Nat.add_sub_cancel]; exact ks.1
  have a2 := jt.2.1.2 a ta
  have hda := hj.hD a (Or.inr ta)
  obtain ⟨w1, w2, w3, w4, w5⟩ := jt.1.2.2 a ta
  obtain ⟨v1, v2, v3, v4, v5, v6, v7, v8⟩ := jv a ta
  have vl := jz.2.2 a ta ka
  obtain ⟨y, hV⟩ : ∃ y, V a = [y] := by
    cases hq : V a with
    | nil => exact absurd hq v1
    | cons y t =>
      rw [hq] at vl
      cases t with
      | nil => exact ⟨y, rfl⟩
      | cons _ _ => simp at vl
  have hyV : y ∈ V a := by rw [hV]; exact List.mem_singleton.mpr rfl
  have efV : m.fV a = y := by rw [hV] at v2; exact v2.1
  have oy : ow y = a := (v8 y hyV).1
  have iw := item_let ji (i := y) (by rw [oy]; exact r0) (by rw [oy]; omega)
  have evn : c.vn y = (m.it y).toInt32 := (v8 y hyV).2.1
  have ef1 : c.f1 a = y := v3.trans efV
  have hdy : d.iid (d.vh y) = y := (jd.2 y (by omega)).mpr ⟨by rw [oy]; exact r0, by rw [oy]; exact a2⟩
  have pc := jp.2 a ta
  have hs40 : s < 40 := Nat.lt_of_lt_of_le hs hK.1
  have hs31 : s < 2 ^ 31 := by omega
  have a1 : 1 ≤ a := by omega
  have a31 : a < 2 ^ 31 := by omega
  have ea1 : a - 1 + 1 = a := by omega
  have y1 : 1 ≤ y := by omega
  have y2 : y ≤ 20002 := by omega
  have hTN : TN (u1 T a 0) := TN_u1 jt.2.1 r0 a2
  have hWQ : WF (m.P.1, m.P.2.1, u1 (u1 c.P.2.2 (m.P.1 a) 0) (m.P.2.1 a) 0) (u1 T a 0) z := WF.dr (P := (m.P.1, m.P.2.1, c.P.2.2)) hj.mw ta hau
  rw [pc.1, pc.2.1] at hWQ
  generalize hQ : ((m.P.1, m.P.2.1, u1 (u1 c.P.2.2 (c.P.1 a) 0) (c.P.2.1 a) 0) : PT) = Q at hWQ
  have Q1 : Q.1 = m.P.1 := by rw [← hQ]
  have Q2 : Q.2.1 = m.P.2.1 := by rw [← hQ]
  have Q3 : Q.2.2 = u1 (u1 c.P.2.2 (c.P.1 a) 0) (c.P.2.1 a) 0 := by rw [← hQ]
  clear hQ
  have Ta : ∀ b, b ≠ a → u1 T a 0 b = T b := fun b hb => u1_o _ _ hb
  have back : ∀ b, u1 T a 0 b ≠ 0 → b ≠ a ∧ T b ≠ 0 := fun b hb => by
    have g : b ≠ a := fun g => by rw [g, u1_s] at hb; exact hb rfl
    rw [u1_o _ _ g] at hb
    exact ⟨g, hb⟩
  have backs : ∀ b, u1 T a 0 b = s + 1 → b ≠ a ∧ T b = s + 1 := fun b hb => by
    have := (back b (by rw [hb]; exact κ0)).1
    exact ⟨this, by rw [← Ta b this]; exact hb⟩
  have la : c.P.1 a ≠ 0 → c.P.1 a ≠ a ∧ T (c.P.1 a) = s + 1 := fun g => by
    refine ⟨fun e => ?_, (w1 g).2.trans ha⟩
    have := (w1 g).1
    rw [e, hau] at this
    exact r0 this.symm
  have ra : c.P.2.1 a ≠ 0 → c.P.2.1 a ≠ a ∧ T (c.P.2.1 a) = s + 1 := fun g => by
    refine ⟨fun e => ?_, (w2 g).2.trans ha⟩
    have := (w2 g).1
    rw [e, hau] at this
    exact r0 this.symm
  have hA : c.P.1 a ≠ 0 → u1 T a 0 (c.P.1 a) = s + 1 ∧ Q.2.2 (c.P.1 a) = 0 := fun g => by
    refine ⟨by rw [Ta _ (la g).1]; exact (la g).2, ?_⟩
    rw [Q3]
    by_cases e : c.P.1 a = c.P.2.1 a
    · exact absurd (w4 e) g
    · rw [u1_o _ _ e, u1_s]
  have hE' : c.P.2.1 a ≠ 0 → u1 T a 0 (c.P.2.1 a) = s + 1 ∧ Q.2.2 (c.P.2.1 a) = 0 := fun g => by
    refine ⟨by rw [Ta _ (ra g).1]; exact (ra g).2, ?_⟩
    rw [Q3, u1_s]
  have hne : c.P.1 a ≠ 0 → c.P.1 a ≠ c.P.2.1 a := fun g e => g (w4 e)
  have hPe : ∀ b, u1 T a 0 b ≠ 0 → c.P.1 b = Q.1 b ∧ c.P.2.1 b = Q.2.1 b := fun b hb => by
    have := jp.2 b (back b hb).2
    rw [Q1, Q2]
    exact ⟨this.1.symm, this.2.1.symm⟩
  have hUe : ∀ b, b ≠ c.P.1 a → b ≠ c.P.2.1 a → Q.2.2 b = c.P.2.2 b := fun b g1 g2 => by rw [Q3, u1_o _ _ g2, u1_o _ _ g1]
  have hcz : ∀ b, T b = s + 1 → c.cz b = z b := fun b hb => jz.2.1 b (by rw [hb]; exact κ0) (by rw [hb, Nat.add_sub_cancel]; omega)
  have zb : ∀ b, LZ T b → z b ≤ 20000 := fun b hb => hj.zle hb
  have zC' : ∀ b, (b = 0 ∨ T b = s + 1) → zC c b = z b := fun b hb => by
    unfold zC
    by_cases g : b = 0
    · rw [if_pos g, g, jt.1.2.1]
    · rw [if_neg g]; exact hcz b (hb.resolve_left g)
  have zl : zC c (c.P.1 a) = z (c.P.1 a) := zC' _ (by
    by_cases g : c.P.1 a = 0
    · exact Or.inl g
    · exact Or.inr (la g).2)
  have zr : zC c (c.P.2.1 a) = z (c.P.2.1 a) := zC' _ (by
    by_cases g : c.P.2.1 a = 0
    · exact Or.inl g
    · exact Or.inr (ra g).2)
  have bl := zb _ (jt.1.lzl ta)
  have br := zb _ (jt.1.lzr ta)
  have bz := zb a (Or.inr ta)
  have zl31 : z (c.P.1 a) < 2 ^ 31 := by omega
  have zr31 : z (c.P.2.1 a) < 2 ^ 31 := by omega
  have hvE : hvC c a = hv c.P z a := by
    unfold hvC hv
    rw [zr, hcz a ha]
  have hvS := Sm_del jt.2.1 κ0 (hv c.P z) ha
  have hys0 := (jz.1 s hs).2.2.2 ks.1 ks.2
  have hhy : c.hy s - hvC c a = Sm (u1 T a 0) (s + 1) (hv Q z) := by
    have cg : Sm (u1 T a 0) (s + 1) (hv c.P z) = Sm (u1 T a 0) (s + 1) (hv Q z) := Sm_congr hTN κ0 (fun b hb => by
      unfold hv
      rw [(hPe b (by rw [hb]; exact κ0)).2])
    rw [hvE, ← cg]
    omega
  -- the class's side
  obtain ⟨c0, hc0⟩ : ∃ c0, c0 = cRem c a := ⟨_, rfl⟩
  have e0' : c0 = (c.sfk (c.ck a)).sfv (c.vn y) := by
    rw [hc0]
    unfold cRem
    rw [if_neg r0, ef1, if_neg (by omega)]
  have z0 : c0.P = c.P ∧ c0.cz = c.cz ∧ c0.hy = c.hy ∧ c0.st = c.st ∧ c0.ro = c.ro ∧ c0.kd = c.kd ∧ c0.fk = c.ck a ∧ c0.fv = c.vn y ∧ c0.he = c.he := by
    rw [e0']
    exact ⟨rfl, rfl, rfl, rfl, rfl, rfl, rfl, rfl, rfl⟩
  have hv0 : hvC c0 a = hvC c a := by rw [e0']; rfl
  obtain ⟨c1, hc1⟩ : ∃ c1, c1 = c0.shy (u1 c0.hy s (c0.hy s - hvC c0 a)) := ⟨_, rfl⟩
  have e1 : c1.P = c.P ∧ c1.cz = c.cz ∧ c1.st = c.st ∧ c1.hy = u1 c.hy s (c.hy s - hvC c a) ∧ c1.kd = c.kd ∧ c1.ck = c.ck ∧ c1.cc = c.cc := by
    rw [hc1, hv0, e0']
    exact ⟨rfl, rfl, rfl, rfl, rfl, rfl, rfl⟩
  have eS1 : c1.ck = c.ck ∧ c1.cc = c.cc ∧ c1.nv = c.nv ∧ c1.f1 = c.f1 ∧ c1.l1 = c.l1 ∧ c1.vn = c.vn ∧ c1.vx = c.vx ∧ c1.kd = c.kd ∧ c1.ro = c.ro ∧ c1.he = c.he ∧ c1.vs = c.vs ∧ c1.la = c.la ∧ c1.tl = c.tl ∧ c1.dp = c.dp ∧ c1.lg = c.lg ∧ c1.pa = c.pa ∧ c1.K = c.K ∧ c1.ar = c.ar ∧ c1.cn = c.cn ∧ c1.E = c.E ∧ c1.pu = c.pu ∧ c1.fk = c.ck a ∧ c1.fv = c.vn y ∧ c1.N = c.N ∧ c1.rO = c.rO ∧ c1.rP = c.rP ∧ c1.rT = c.rT ∧ c1.rQ = c.rQ := by
    rw [hc1, e0']
    exact ⟨rfl, rfl, rfl, rfl, rfl, rfl, rfl, rfl, rfl, rfl, rfl, rfl, rfl, rfl, rfl, rfl, rfl, rfl, rfl, rfl, rfl, rfl, rfl, rfl, rfl, rfl, rfl, rfl⟩
  obtain ⟨eP, ecz, est, ehy, ekd, eck, ecc⟩ := e1
  obtain ⟨W, hWe⟩ : ∃ W, W = mwP (fsM (c1.kd s) c1.ck c1.cc) Q 20002 (c.P.1 a) (c.P.2.1 a) := ⟨_, rfl⟩
  obtain ⟨c3, z', cm, hS, hst, hyo, hys, hWm, czs, czo, hPm, hPu, hqT, hzq, hun, hfr, hza⟩ := cmel L xs hw h2 c1 (by rw [ekd, h4]; omega) hTN hWQ κ0 (fun b hb => hj.hD b (hb.elim Or.inl (fun g => Or.inr (back b g).2))) (fun b hb => by
      rw [ecc]
      have := jh.2.1 b (back b hb).2
      omega) hA hE' hne (fun b hb => by rw [eP]; exact hPe b hb) (fun b _ g1 g2 => by rw [eP]; exact (hUe b g1 g2).symm) (fun b hb => by rw [ecz]; exact hcz b (backs b hb).2) (by rw [ehy, u1_s]; exact hhy) hWe
  have hlen : W.1.length ≤ 20002 := by rw [hWe]; exact mwP_len _ _ _ _ _
  generalize hq : hd W.1 W.2 = q at *
  generalize hM : mel Q W.1 W.2 = M at *
  have qT0 : q ≠ 0 → T q ≠ 0 := fun g => (back q (by rw [(hqT g).1]; exact κ0)).2
  have hdq : d.nid (d.ph q) = q := by
    by_cases g : q = 0
    · exact hj.hD q (Or.inl g)
    · exact hj.hD q (Or.inr (qT0 g))
  have hPA : ∀ b, u1 T a 0 b ≠ 0 → c3.P.1 b = M.1 b ∧ c3.P.2.1 b = M.2.1 b ∧ (if q = 0 then c3.P.2.2 else u1 c3.P.2.2 q 0) b = M.2.2 b := fun b hb => by
    obtain ⟨y1, y2, y3⟩ := hPm b hb
    refine ⟨y1, y2, ?_⟩
    by_cases q0 : q = 0
    · rw [if_pos q0]
      exact y3 (by rw [q0]; exact jt.1.n0 (back b hb).2)
    · rw [if_neg q0]
      by_cases g : b = q
      · rw [g, u1_s, (hqT q0).2]
      · rw [u1_o _ _ g]; exact y3 g
  have hW3 : WF (c3.P.1, c3.P.2.1, if q = 0 then c3.P.2.2 else u1 c3.P.2.2 q 0) (u1 T a 0) z' := hWm.pt hPA
  obtain ⟨s1, s2, s3, s4, s5, s6, s7, s8, s9, s10, s11, s12, s13, s14, s15, s16, s17, s18, s19, s20, s21, s22, s23, s24, s25, s26, s27, s28⟩ := hS
  obtain ⟨g1, g2, g3, g4, g5, g6, g7, g8, g9, g10, g11, g12, g13, g14, g15, g16, g17, g18, g19, g20, g21, g22, g23, g24, g25, g26, g27, g28⟩ := eS1
  have hhe : 1 ≤ c.he s := by rw [← hhe0]; exact jt.1.pos ta
  have cE : 1 ≤ c.E := by rw [f3]; exact iw.1
  have c127' := c127 L xs (b := B) hw jb.2.2.2.1 h2 ts (c := c0) (c3 := c3) (a := a) (q := q) (by rw [z0.2.2.2.2.1]; exact hae) r0 hda hdq (c130 L xs hw jb.2.2.2.1 c0 r0 hda (by rw [z0.1]; exact hj.hD _ (jt.1.lzr ta)) (by rw [z0.2.1, hcz a ha]; omega) (by rw [z0.1]; show zC c0 (c.P.2.1 a) < 2 ^ 29; have : zC c0 (c.P.2.1 a) = zC c (c.P.2.1 a) := by { rw [e0']; rfl }; rw [this, zr]; omega)) (by rw [hv0, z0.2.2.1, hvE, hys0, hvS]; omega) (by rw [← hc1, z0.1]; exact cm B jb.2.2.2.1 ts) (by rw [s10, g10]; exact hhe)
  obtain ⟨c4, hc4⟩ : ∃ c4, c4 = ((c3.sro (u1 c3.ro s q)).sP (c3.P.1, c3.P.2.1, if q = 0 then c3.P.2.2 else u1 c3.P.2.2 q 0)).she (u1 c3.he s (c3.he s - 1)) := ⟨_, rfl⟩
  rw [← hc4] at c127'
  obtain ⟨c5, hc5⟩ : ∃ c5, c5 = c4.sE (c4.E - 1) := ⟨_, rfl⟩
  have e5 : c5.ro = u1 c.ro s q ∧ c5.he = u1 c.he s (c.he s - 1) ∧ c5.P = (c3.P.1, c3.P.2.1, if q = 0 then c3.P.2.2 else u1 c3.P.2.2 q 0) ∧ c5.cz = c3.cz ∧ c5.hy = c3.hy ∧ c5.st = c3.st ∧ c5.ck = c.ck ∧ c5.cc = c.cc ∧ c5.nv = c.nv ∧ c5.f1 = c.f1 ∧ c5.l1 = c.l1 ∧ c5.vn = c.vn ∧ c5.vx = c.vx ∧ c5.kd = c.kd ∧ c5.vs = c.vs ∧ c5.la = c.la ∧ c5.tl = c.tl ∧ c5.dp = c.dp ∧ c5.lg = c.lg ∧ c5.pa = c.pa ∧ c5.K = c.K ∧ c5.ar = c.ar ∧ c5.cn = c.cn ∧ c5.E = c.E - 1 ∧ c5.pu = c.pu ∧ c5.fk = c.ck a ∧ c5.fv = c.vn y ∧ c5.N = c.N ∧ c5.rO = c.rO ∧ c5.rP = c.rP ∧ c5.rT = c.rT ∧ c5.rQ = c.rQ ∧ c4.E = c.E := by
    rw [hc5, hc4]
    exact ⟨by show u1 c3.ro s q = _; rw [s9, g9], by show u1 c3.he s (c3.he s - 1) = _; rw [s10, g10], rfl, rfl, rfl, rfl, s1.trans g1, s2.trans g2, s3.trans g3, s4.trans g4, s5.trans g5, s6.trans g6, s7.trans g7, s8.trans g8, s11.trans g11, s12.trans g12, s13.trans g13, s14.trans g14, s15.trans g15, s16.trans g16, s17.trans g17, s18.trans g18, s19.trans g19, by show c3.E - 1 = _; rw [s20, g20], s21.trans g21, s22.trans g22, s23.trans g23, s24.trans g24, s25.trans g25, s26.trans g26, s27.trans g27, s28.trans g28, s20.trans g20⟩
  clear hc4
  obtain ⟨x1, x2, x3, x4, x5, x6, x7, x8, x9, x10, x11, x12, x13, x14, x15, x16, x17, x18, x19, x20, x21, x22, x23, x24, x25, x26, x27, x28, x29, x30, x31, x32, x33⟩ := e5
  have qb : q ≤ 20002 := by
    by_cases q0 : q = 0
    · omega
    · exact jt.2.1.2 q (qT0 q0)
  have hBP0 : BP (M.1, M.2.1, m.P.2.2) := BP_mel jp.1 hTN κ0 hWm (fun b hb => by rw [← Q1, ← Q2]; exact ⟨(hfr b hb).1, (hfr b hb).2.1⟩)
  have fnb : m.fn ≤ 20002 := by
    obtain ⟨k1, k2, k3, -, -, k6⟩ := id jf
    by_cases g : m.fn = 0
    · omega
    · obtain ⟨t, rfl, -⟩ := Chn_n0 g k1
      have := (k3 m.fn List.mem_cons_self).2
      have := k6
      omega
  obtain ⟨m3, hm3⟩ : ∃ m3, m3 = mLetI (((m.ssp 0).sfk (m.ky a)).sfv (m.it y).toInt32) y := ⟨_, rfl⟩
  have em3 : m3.kd = m.kd ∧ m3.rt = m.rt ∧ m3.pl = m.pl ∧ m3.nu = m.nu ∧ m3.ky = m.ky ∧ m3.P = m.P ∧ m3.cs = m.cs ∧ m3.fV = m.fV ∧ m3.lV = m.lV ∧ m3.it = m.it ∧ m3.nx = u1 m.nx y m.fi ∧ m3.K = m.K ∧ m3.E = m.E - 1 ∧ m3.nm = m.nm ∧ m3.fn = m.fn ∧ m3.im = m.im ∧ m3.fi = y ∧ m3.se = m.se ∧ m3.sp = 0 ∧ m3.pu = m.pu ∧ m3.st = m.st ∧ m3.N = m.N ∧ m3.fk = m.ky a ∧ m3.fv = (m.it y).toInt32 ∧ m3.rO = m.rO ∧ m3.rP = m.rP ∧ m3.rT = m.rT ∧ m3.rQ = m.rQ := by
    rw [hm3]
    exact ⟨rfl, rfl, rfl, rfl, rfl, rfl, rfl, rfl, rfl, rfl, rfl, rfl, rfl, rfl, rfl, rfl, rfl, rfl, rfl, rfl, rfl, rfl, rfl, rfl, rfl, rfl, rfl, rfl⟩
  obtain ⟨k1, k2, k3, k4, k5, k6, k7, k8, k9, k10, k11, k12, k13, k14, k15, k16, k17, k18, k19, k20, k21, k22, k23, k24, k25, k26, k27, k28⟩ := em3
  obtain ⟨m4, hm4⟩ : ∃ m4, m4 = ((m3.ssp (m3.sp + W.1.length)).sP (M.1, M.2.1, m3.P.2.2)).srt (u1 m3.rt s q) := ⟨_, rfl⟩
  obtain ⟨m2, hm2⟩ : ∃ m2, m2 = mLetN m4 a := ⟨_, rfl⟩
  have em : m2.kd = m.kd ∧ m2.rt = u1 m.rt s q ∧ m2.pl = m.pl ∧ m2.nu = m.nu ∧ m2.ky = m.ky ∧ m2.P.2.2 = m.P.2.2 ∧ m2.cs = m.cs ∧ m2.fV = m.fV ∧ m2.lV = m.lV ∧ m2.it = m.it ∧ m2.nx = u1 m.nx y m.fi ∧ m2.K = m.K ∧ m2.E = m.E - 1 ∧ m2.nm = m.nm ∧ m2.fn = a ∧ m2.im = m.im ∧ m2.fi = y ∧ m2.se = m.se := by
    rw [hm2, hm4]
    exact ⟨k1, by show u1 m3.rt s q = _; rw [k2], k3, k4, k5, by show m3.P.2.2 = _; rw [k6], k7, k8, k9, k10, k11, k12, k13, k14, rfl, k16, k17, k18⟩
  have em2 : m2.P.1 = u1 M.1 a m.fn ∧ m2.P.2.1 = M.2.1 ∧ m2.sp = W.1.length ∧ m2.pu = m.pu ∧ m2.st = m.st ∧ m2.N = m.N ∧ m2.fk = m.ky a ∧ m2.fv = (m.it y).toInt32 ∧ m2.rO = m.rO ∧ m2.rP = m.rP ∧ m2.rT = m.rT ∧ m2.rQ = m.rQ ∧ BP m2.P := by
    rw [hm2, hm4]
    refine ⟨by show u1 M.1 a m3.fn = _; rw [k15], rfl, by show m3.sp + W.1.length = _; rw [k19, Nat.zero_add], k20, k21, k22, k23, k24, k25, k26, k27, k28, ?_⟩
    show BP (u1 M.1 a m3.fn, M.2.1, m3.P.2.2)
    rw [k15, k6]
    exact BP_mk (u1_le (fun b => (hBP0 b).1) fnb) (fun b => (hBP0 b).2.1) (fun b => (hBP0 b).2.2)
  obtain ⟨u1', u2, u3, u4, u5, u6, u7, u8, u9, u10, u11, u12, u13⟩ := em2
  have hj2 := pop_hp (m := m) (m' := m2) (c := c) (c' := c5) (z' := z') (q := q) (a := a) (i := y) hj hs ks ha hV em
    ⟨x7, x8, x19, x9, x10, x11, x12, x13, x14, x1, x2, x15, x16, x17, x18, x20, x21, x22, x23⟩
    ⟨by rw [x3]; exact hW3, u13, fun b hb => by
      rw [u1', u2, x3, x4, u1_o _ _ (backs b hb).1]
      obtain ⟨y1, y2, -⟩ := hPA b (by rw [hb]; exact κ0)
      exact ⟨y1.symm, y2.symm, czs b hb⟩, fun b ba hb => by
      obtain ⟨y1, y2, -⟩ := hfr b hb
      rw [u1', u2, u1_o _ _ ba, y1, y2, (czo b hb).2, Q1, Q2]
      exact ⟨rfl, rfl, rfl⟩, by rw [u1', u1_s], fun b hb hne => by
      obtain ⟨y1, y2, y3⟩ := hPA b hb
      obtain ⟨w1, w2, w3⟩ := hfr b hne
      obtain ⟨y4, y5⟩ := hPe b hb
      have bl : b ≠ c.P.1 a := fun g => by
        by_cases g0 : c.P.1 a = 0
        · rw [g, g0] at hb; exact hb hTN.1
        · exact hne (by rw [g]; exact (hA g0).1)
      have br : b ≠ c.P.2.1 a := fun g => by
        by_cases g0 : c.P.2.1 a = 0
        · rw [g, g0] at hb; exact hb hTN.1
        · exact hne (by rw [g]; exact (hE' g0).1)
      rw [x3, x4]
      show c3.P.1 b = _ ∧ c3.P.2.1 b = _ ∧ (if q = 0 then c3.P.2.2 else u1 c3.P.2.2 q 0) b = _ ∧ _
      rw [y1, y2, y3, w1, w2, w3, (czo b hne).1, ecz, y4, y5, hUe b bl br]
      exact ⟨rfl, rfl, rfl, rfl⟩, fun q0 => ⟨(hqT q0).1, by
        rw [x3]
        show (if q = 0 then c3.P.2.2 else u1 c3.P.2.2 q 0) q = 0
        rw [if_neg q0, u1_s]⟩, fun b hb hu => by
      have hb0 : u1 T a 0 b ≠ 0 := by rw [hb]; exact κ0
      rw [x3] at hu
      have hu : (if q = 0 then c3.P.2.2 else u1 c3.P.2.2 q 0) b = 0 := hu
      rw [(hPA b hb0).2.2] at hu
      rcases hun b hb0 hu with g | g
      · exact g
      · exfalso
        rw [hUe b g.2.1 g.2.2] at g
        have := (jr s hs).2.2.2 b (backs b hb).2 g.1
        rw [hae] at this
        exact (backs b hb).1 this, by
      rw [x5, hys]
      refine Sm_congr hTN κ0 (fun b hb => ?_)
      unfold hv
      rw [x3]
      show _ = if z' b < 2 * z' (c3.P.2.1 b) then 1 else 0
      rw [(hPA b (by rw [hb]; exact κ0)).2.1], fun r hr => by
      rw [x5, hyo r hr, ehy, u1_o _ _ hr]⟩
  have hM2 : JM m2 c5 s := by
    refine JM.of ja hN hs x25 ?_ u4 u5 em.2.2.2.2.2.2.2.2.2.2.2.1 (by omega) ⟨?_, ?_, ?_, ?_, ?_⟩ x28 u6 x29 x30 x31 x32 u9 u10 u11 u12
    · rw [x6, hst, est, u3]
    · rw [x26, u7]; exact pc.2.2.1.symm
    · rw [x27, u8]; exact evn
    · rw [x24, em.2.2.2.2.2.2.2.2.2.2.2.2.1, f3]
    · rw [em.2.2.2.2.2.2.2.2.2.2.2.2.2.2.2.2.2]; omega
    · rw [x23]; omega
  have hK2 : m2.K = m.K := em.2.2.2.2.2.2.2.2.2.2.2.1
  have hs2 : s < m2.K := by rw [hK2]; exact hs
  have hst2 : c.st s = (m2.st s).toInt32 := by rw [u5]; exact (ja1 s hs).2
  have hrw : rwP m2 = rwP m := by
    unfold rwP
    rw [hK2, em.1, em.2.2.1, em.2.2.2.1]
  have hj3 := hj2.cb d c5
  have hcl := (cls L xs hj3 hM2 hs2 (prH (z (c.P.1 a)) (z (c.P.2.1 a))) (c.st s) hst2).1
  rw [← cl_let B d c5 a y] at hcl
  have hhe5 : c5.he s = c.he s - 1 := by rw [x2, u1_s]
  have hsa : ((d.dn a).di y).sa = d.sa := rfl
  rw [hsa] at hcl
  refine Ans.of L xs (B' := cl B d c5) (c' := cCls c5 s (nI s) (prH (z (c.P.1 a)) (z (c.P.2.1 a))) (nI m2.sp) (nI (potV (cl B d c5) c5 s))) (d' := (d.dn a).di y) (r := .int (nI (c.he s - 1))) ?_ (ml_clb e0 d c5) jb.2.1 (fun h hh => ?_)
  · have e123 := c123_n L xs (b := B) hw jb.2.2.2.1 h2 ts c (by rw [hae]; exact r0) (by rw [hae]; exact hda) (by rw [hae]; exact hj.hD _ (jt.1.lzl ta)) (by rw [hae]; exact hj.hD _ (jt.1.lzr ta)) (by rw [hae, zl]; exact zl31) (by rw [hae, zr]; exact zr31)
    rw [hae, zl, zr] at e123
    have e37 := c37 L xs (b := B) jb.1 hw jb.2.2.2.1 jb.2.2.2.2.1 c (n := a) hda (fun _ => by rw [ef1]; exact hdy)
    rw [← hc0] at e37
    rw [cpre, k_11_39]
    have eE : wI (cl B d c4) 3 1 (nI c4.E - 1) = cl B d c5 := by
      rw [show nI c4.E - 1 = nI (c4.E - 1) from pk_sub (by rw [x33]; exact cE), cl_E, ← hc5]
    simp only [Hcl, p1, p2, p3, p4, HF1, HF2, HF3, gd_t, decide_true, Bool.and_self, HQ, HZ, ts, Rs d h2, hae, dS hw h2, cc_0_142_3, e123, bI_s, cc_0_68_1, e37, bV_s, cc_0_146_3, c127', eE]
    rw [k_11_72]
    have hsd2 : ((d.dn a).di y).sid (((d.dn a).di y).sa (s + 1)) = s + 1 := h2
    have r14 : ∀ C : CS, fI (cl (cl B d c5) ((d.dn a).di y) C) 14 (d.sa (s + 1)) = nI (C.he s) := fun C => by
      have := Rs ((d.dn a).di y) hsd2 (cl B d c5) C
      rw [hsa] at this
      simp only [this]
    simp only [Hcl, p1, p2, p3, p4, HF1, HF2, HF3, gd_t, decide_true, Bool.and_self, HQ, HZ, ts, cc_0_72_1, hcl, bV_s, r14]
    rw [show (cCls c5 s (nI s) (prH (z (c.P.1 a)) (z (c.P.2.1 a))) (nI m2.sp) (nI (potV (cl B d c5) c5 s))).he s = c.he s - 1 from hhe5]
  · obtain ⟨b1, b2, b3, b4⟩ := id hh
    obtain ⟨q1, e92⟩ := m_92 L xs hh (m.ssp 0) (up := c.P.2.2) (T := T) (z := z) hj.mw jt.2.1 (jt.1.lzl ta)
    obtain ⟨q2, e93⟩ := m_92 L xs hh ((m.ssp 0).sW q1) (up := c.P.2.2) (T := T) (z := z) hj.mw jt.2.1 (jt.1.lzr ta)
    have e93 : XM L xs 92 [.ref 8, .int (en (c.P.2.1 a))] (ml h ((m.ssp 0).sW q1)) = some (ml h ((m.ssp 0).sW q2), some (.int (nI (z (c.P.2.1 a))))) := e93
    have e58 := m_58 L xs hh (((m.ssp 0).sfk (m.ky a)).sW q2) a1 a2 (by show 1 ≤ m.fV a; rw [efV]; exact y1) (by show m.fV a ≤ 20002; rw [efV]; exact y2)
    have e58 : XM L xs 58 [.ref 8, .int (en a)] (ml h (((m.ssp 0).sfk (m.ky a)).sW q2)) = some (ml h (((m.ssp 0).sfk (m.ky a)).sW q2), some (.int (m.it y).toInt32)) := by rw [← efV]; exact e58
    have e55 := m_55 L xs hh ((((m.ssp 0).sfk (m.ky a)).sfv (m.it y).toInt32).sW q2) y1 y2 iw.1
    have e55 : XM L xs 55 [.ref 8, .int (en y)] (ml h ((((m.ssp 0).sfk (m.ky a)).sfv (m.it y).toInt32).sW q2)) = some (ml h (m3.sW q2), none) := by rw [hm3]; exact e55
    obtain ⟨q3, e90⟩ := mmel L xs hh (m3.sW q2) (Q := Q) (T := u1 T a 0) (z := z) hWQ (by rw [Q1]; show m.P.1 = m3.P.1; rw [k6]) (by rw [Q2]; show m.P.2.1 = m3.P.2.1; rw [k6]) hTN hs40 (by show m3.kd s ≤ 5; rw [k1]; omega) (fun b hb => by
        show m3.cs b < 2 ^ 31
        rw [k7]
        have := jh.1 b
        omega) (by show BP m3.P; rw [k6]; exact jp.1) κ0 (a := c.P.1 a) (e := c.P.2.1 a) (fun g => (hA g).1) (fun g => (hE' g).1) hza (fs := fsM (c1.kd s) c1.ck c1.cc) (fun b e hb he => by
        show fsM (m3.kd s) m3.ky m3.cs b e = _
        rw [k1, k5, k7, ekd, eck, ecc, h4]
        have hb := (backs b hb).2
        have he := (backs e he).2
        exact fsM_cg (jp.2 b (by rw [hb]; exact κ0)).2.2.1 (jp.2 e (by rw [he]; exact κ0)).2.2.1 (jh.2.2.2 b e (by rw [hb]; exact κ0) (by rw [he]; exact κ0) (by rw [hb, Nat.add_sub_cancel]; exact ks.1) (by rw [he, Nat.add_sub_cancel]; exact ks.1))) hWe
    rw [hq, hM] at e90
    obtain ⟨m5, hm5⟩ : ∃ m5, m5 = (m3.ssp (m3.sp + W.1.length)).sP (M.1, M.2.1, m3.P.2.2) := ⟨_, rfl⟩
    have e90 : XM L xs 90 [.ref 8, .int (nI s), .int (en (c.P.1 a)), .int (en (c.P.2.1 a))] (ml h (m3.sW q2)) = some (ml h (m5.sW q3), some (.int (en q))) := by rw [hm5]; exact e90
    have e45 : m4 = m5.srt (u1 m5.rt s q) := by rw [hm4, hm5]; rfl
    clear hm5 hm4
    have e53 := m_53 L xs hh (m4.sW q3) a1 a2
    have e53 : XM L xs 53 [.ref 8, .int (en a)] (ml h (m4.sW q3)) = some (ml h (m2.sW q3), none) := by rw [hm2]; exact e53
    obtain ⟨q4, e66⟩ := clsq L xs hj3 hM2 hs2 (prH (z (c.P.1 a)) (z (c.P.2.1 a))) (c.st s) hst2 q3 h hh
    have er2 : m2.rt s = c5.ro s := ((hj2.2.2.2.1 s hs2).1 (by rw [em.1]; exact ks.2)).1
    obtain ⟨q5, e67⟩ := m_64 L xs hh ((mAct m2 s (prH (z (c.P.1 a)) (z (c.P.2.1 a))) (nI (potV (cl B d c5) c5 s))).sW q4) (up := c5.P.2.2) (T := u1 T a 0) (z := z') hj2.mw hTN hs40 (show LZ _ (m2.rt s) by rw [er2]; exact hj2.rz hs2)
    have e67 : XM L xs 64 [.ref 8, .int (nI s)] (ml h ((mAct m2 s (prH (z (c.P.1 a)) (z (c.P.2.1 a))) (nI (potV (cl B d c5) c5 s))).sW q4)) = some (ml h ((mAct m2 s (prH (z (c.P.1 a)) (z (c.P.2.1 a))) (nI (potV (cl B d c5) c5 s))).sW q5), some (.int (nI (c.he s - 1)))) := by
      rw [← hhe5, ← hj2.he hs2 (by rw [em.1]; exact ks.2), ← er2]
      exact e67
    refine ⟨(mAct m2 s (prH (z (c.P.1 a)) (z (c.P.2.1 a))) (nI (potV (cl B d c5) c5 s))).sW q5, ?_, (Inv.act hj3 hM2 hs2 _ _ q5 (B0 := B) jq u6 (by show nn B ≤ nn B + 4; omega) (by show sl B + 2 * rwP m2 ≤ _; rw [hrw]; omega)).up⟩
    rw [mpre h hh, k_94_47]
    simp only [Hml, b1, b2, b3, b4, HF10, gd_t, decide_true, Bool.and_self, HQ, HZ]
    rw [← nI_0, ml_sp, k_94_52]
    have er3 : (m.ssp 0).rt s = a := by show m.rt s = a; rw [er]
    have ep1 : (m.ssp 0).P.1 a = c.P.1 a := pc.1
    have ep2 : ((m.ssp 0).sW q1).P.2.1 a = c.P.2.1 a := pc.2.1
    have eky : ((m.ssp 0).sW q2).ky a = m.ky a := rfl
    have efk : ((m.ssp 0).sW q2).sfk (m.ky a) = ((m.ssp 0).sfk (m.ky a)).sW q2 := rfl
    have efv : (((m.ssp 0).sfk (m.ky a)).sW q2).sfv (m.it y).toInt32 = (((m.ssp 0).sfk (m.ky a)).sfv (m.it y).toInt32).sW q2 := rfl
    have eV : ((((m.ssp 0).sfk (m.ky a)).sfv (m.it y).toInt32).sW q2).fV a = y := efV
    have eP31 : (m3.sW q2).P.1 a = c.P.1 a := by show m3.P.1 a = _; rw [k6]; exact pc.1
    have eP32 : (m3.sW q2).P.2.1 a = c.P.2.1 a := by show m3.P.2.1 a = _; rw [k6]; exact pc.2.1
    simp only [Hml, b1, b2, b3, b4, HF10, gd_t, decide_true, Bool.and_self, HQ, HZ, inb_nI hs40 (by decide), nI_clamp hs31, er3, inb_en a1 a2 (by decide), cl_en a1 a31, ea1, ep1, cc_9_244_10, e92, bI_s, ep2, e93, cc_9_241_0, s_91 L xs _ (z (c.P.1 a)) (z (c.P.2.1 a)) zl31 zr31, eky, ml_fk, efk]
    rw [k_94_93]
    simp only [Hml, b1, b2, b3, b4, HF10, gd_t, decide_true, Bool.and_self, HQ, HZ, cc_9_188_10, e58, bI_s, ml_fv, efv]
    rw [k_94_102]
    simp only [Hml, b1, b2, b3, b4, HF10, gd_t, decide_true, Bool.and_self, HQ, HZ, inb_nI hs40 (by decide), nI_clamp hs31, inb_en a1 a2 (by decide), cl_en a1 a31, ea1, eV, cc_9_194_10, e55, bV_s, eP31, eP32, cc_9_237_10, e90, bI_s, ml_rt]
    rw [k_94_135]
    have eM : ∀ X : MS, X = m4.sW q3 → (gd (decide ((8 : Nat) ≠ 0) && decide (catS [] ≤ 8)) (bV (cfD (XM L xs) 9 203 (tg (ml h X) 8) [.ref 8, .int (en a)] (ml h X)) fun h1 => gd (decide ((8 : Nat) ≠ 0) && decide (catS [] ≤ 8)) (bV (cfD (XM L xs) 9 172 (tg h1 8) [.ref 8, .int (nI s), .int (prH (z (c.P.1 a)) (z (c.P.2.1 a)))] h1) fun h2 => gd (decide ((8 : Nat) ≠ 0) && decide (catS [] ≤ 8)) (bI (cfD (XM L xs) 9 150 (tg h2 8) [.ref 8, .int (nI s)] h2) fun r3 h3 => some (h3, some (.int r3)))))) = some (ml h ((mAct m2 s (prH (z (c.P.1 a)) (z (c.P.2.1 a))) (nI (potV (cl B d c5) c5 s))).sW q5), some (.int (nI (c.he s - 1)))) := by
      intro X hX
      rw [hX]
      simp only [Hml, b1, b2, b3, b4, HF10, gd_t, decide_true, Bool.and_self, HQ, HZ, cc_9_203_10, e53, bV_s, cc_9_172_10, e66, cc_9_150_10, e67, bI_s]
    refine eM _ ?_
    rw [e45]
    rfl
theorem q_pop {i : Nat} {B : AH} {m : MS} {c : CS} {d : DS} (hI : Inv i B m c d) (a : Int32) : Ans L xs i B m c d 11 94 [.int a] := by
  obtain ⟨e0, ja, jq, T, z, V, R, FN, FI, ow, hj⟩ := id hI
  obtain ⟨jb, js, jt, jr, jp, jd, jv, ji, jf, jw, jh, jz, jl⟩ := id hj
  obtain ⟨p1, p2, p3, p4⟩ := id jb.1
  obtain ⟨n1, n2, n3, n4, n5, n6⟩ := ja.2.2.1
  have hw := jb.2.2.2.2.2
  have hK := hj.K
  have c20 : (20000 : Int32) = nI 20000 := by decide +kernel
  rcases st_of hK.1 a with ha | ⟨s, hs, rfl⟩
  · refine Ans.of L xs (B' := B) (c' := c) (d' := d) (r := .int (-1)) ?_ e0 jb.2.1 (fun h hh => ⟨m, ?_, hI.stay⟩)
    · rw [en_11, k_11_0]
      simp only [Hcl, p1, p2, p3, p4, HF1, HF2, gd_t, decide_true, Bool.and_self, HQ, HZ, cc_0_132_1, hj.c28f L xs ha, bR_s, if_true]
      rw [k_11_10]
      simp only [Hcl, p1, p2, p3, p4, HF1, HF2, gd_t, decide_true, Bool.and_self, HQ, HZ, cc_0_47_1, hj.c30f L xs ha, bI_s]
    · obtain ⟨b1, b2, b3, b4⟩ := id hh
      rw [en_94, k_94_0]
      simp only [Hml, b1, b2, b3, b4, HF10, gd_t, decide_true, Bool.and_self, HQ, HZ, cc_9_175_10, m_63_f L xs hh m ha, bI_s, not_true, if_false, k_94_8]
  · obtain ⟨h1, h2, h3, h4, h5, h6⟩ := hj.kin hs
    have hs40 : s < 40 := by omega
    have hs31 : s < 2 ^ 31 := by omega
    have mpre : ∀ h, MB h → XM L xs 94 [.ref 8, .int (nI s)] (ml h m) = if m.kd s = 2 ∨ m.kd s = 3 then X L xs 94 21 [.ref 8, .int (nI s), .null, .null] [] (ml h m) else some (ml h m, some (.int (-2))) := by
      intro h hh
      obtain ⟨b1, b2, b3, b4⟩ := id hh
      rw [en_94, k_94_0]
      simp only [Hml, b1, b2, b3, b4, HF10, gd_t, decide_true, Bool.and_self, HQ, HZ, cc_9_175_10, m_63_t L xs hh m hs hK.1, bI_s, show ¬ (1 : Int32) = 0 from by decide, not_false_eq_true, if_true]
      rw [k_94_10]
      simp only [Hml, b1, b2, b3, b4, HF10, gd_t, decide_true, Bool.and_self, HQ, HZ, cc_9_121_10, m_61 L xs hh m hs40 h5, bI_s]
      by_cases g : m.kd s = 2 ∨ m.kd s = 3
      · rw [decide_eq_true g, if_pos (show ¬ bI1 true = 0 from by decide), if_pos g]
      · rw [decide_eq_false g, if_neg (show ¬ ¬ bI1 false = 0 from by decide), if_neg g, k_94_18]
    by_cases hk : m.kd s = 2 ∨ m.kd s = 3
    · have ks : 2 ≤ m.kd s ∧ m.kd s ≤ 3 := by omega
      have ts : tg B (d.sa (s + 1)) = 3 := (hj.tgs hs).2.2.1 ks.1 ks.2
      have er : m.rt s = c.ro s := ((jr s hs).1 ks.2).1
      have hdr := hj.hD _ (hj.rz hs)
      have cpre : XM L xs 11 [.ref 1, .int (nI s)] (cl B d c) = if c.ro s = 0 then some (cl B d c, some (.int (-3))) else if m.N = 20000 then some (cl B d c, some (.int (-5))) else X L xs 11 39 [.ref 1, .int (nI s), .ref (d.sa (s + 1)), .null, .null] [] (cl B d c) := by
        rw [en_11, k_11_0]
        simp only [Hcl, p1, p2, p3, p4, HF1, HF2, gd_t, decide_true, Bool.and_self, HQ, HZ, cc_0_132_1, hj.c28 L xs hs, hk, if_true, bR_s, h3, if_false]
        rw [k_11_16]
        simp only [Hcl, p1, p2, p3, p4, HF1, HF2, HF3, gd_t, decide_true, Bool.and_self, HQ, HZ, ts, Rs d h2, ph0 hw hdr]
        by_cases g : c.ro s = 0
        · rw [if_pos g, if_pos g, k_11_23]
        · rw [if_neg g, if_neg g, k_11_26]
          simp only [Hcl, p1, p2, p3, p4, HF1, HF2, gd_t, decide_true, Bool.and_self, HQ, HZ, cc_0_51_2, c116 L xs jb.1 d c (by omega), bI_s, n1]
          by_cases g2 : m.N = 20000
          · rw [if_pos g2, decide_eq_true g2, if_neg (show ¬ bI1 true = 0 from by decide), k_11_36]
          · rw [if_neg g2, decide_eq_false g2, if_pos (show bI1 false = 0 from rfl)]
      have rb : c.ro s ≤ 20002 := by
        rcases hj.rz hs with q | q
        · omega
        · exact jt.2.1.2 _ q
      by_cases g : c.ro s = 0
      · refine Ans.of L xs (B' := B) (c' := c) (d' := d) (r := .int (-3)) (by rw [cpre, if_pos g]) e0 jb.2.1 (fun h hh => ⟨m, ?_, hI.stay⟩)
        obtain ⟨b1, b2, b3, b4⟩ := id hh
        rw [mpre h hh, if_pos hk, k_94_21]
        simp only [Hml, b1, b2, b3, b4, HF10, gd_t, decide_true, Bool.and_self, HQ, HZ, inb_nI hs40 (by decide), nI_clamp hs31, er, g, en_0, not_true, if_false, k_94_31]
      · have m34 : ∀ h, MB h → XM L xs 94 [.ref 8, .int (nI s)] (ml h m) = X L xs 94 34 [.ref 8, .int (nI s), .null, .null] [] (ml h m) := fun h hh => by
          obtain ⟨b1, b2, b3, b4⟩ := id hh
          rw [mpre h hh, if_pos hk, k_94_21]
          simp only [Hml, b1, b2, b3, b4, HF10, gd_t, decide_true, Bool.and_self, HQ, HZ, inb_nI hs40 (by decide), nI_clamp hs31, er]
          rw [if_pos (fun q => g ((en_m1 (by omega)).mp q))]
        by_cases g2 : m.N = 20000
        · refine Ans.of L xs (B' := B) (c' := c) (d' := d) (r := .int (-5)) (by rw [cpre, if_neg g, if_pos g2]) e0 jb.2.1 (fun h hh => ⟨m, ?_, hI.stay⟩)
          obtain ⟨b1, b2, b3, b4⟩ := id hh
          rw [m34 h hh, k_94_34]
          simp only [Hml, b1, b2, b3, b4, HF10, gd_t, decide_true, Bool.and_self, HQ, HZ, g2, c20, not_true, if_false, k_94_44]
        · refine pop_go L xs hI hs ks g (by omega) (by rw [cpre, if_neg g, if_neg g2]) (fun h hh => ?_)
          obtain ⟨b1, b2, b3, b4⟩ := id hh
          rw [m34 h hh, k_94_34]
          simp only [Hml, b1, b2, b3, b4, HF10, gd_t, decide_true, Bool.and_self, HQ, HZ]
          rw [c20, if_pos (by rw [nI_eq (by omega) (by omega)]; exact g2)]
    · refine Ans.of L xs (B' := B) (c' := c) (d' := d) (r := .int (-2)) ?_ e0 jb.2.1 (fun h hh => ⟨m, by rw [mpre h hh, if_neg hk], hI.stay⟩)
      rw [en_11, k_11_0]
      simp only [Hcl, p1, p2, p3, p4, HF1, HF2, gd_t, decide_true, Bool.and_self, HQ, HZ, cc_0_132_1, hj.c28 L xs hs, hk, if_false, bR_s, if_true]
      rw [k_11_10]
      simp only [Hcl, p1, p2, p3, p4, HF1, HF2, gd_t, decide_true, Bool.and_self, HQ, HZ, cc_0_47_1, hj.c30 L xs hs, bI_s]
end Ppg
