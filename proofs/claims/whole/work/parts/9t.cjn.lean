-- drop: a node goes from a TURNING tree
theorem HcRoot (c : CS) (s x : Nat) : (cRoot c s x).cc = c.cc ∧ (cRoot c s x).vn = c.vn ∧ (cRoot c s x).vx = c.vx ∧ (cRoot c s x).kd = c.kd ∧ (cRoot c s x).ro = u1 c.ro s x ∧ (cRoot c s x).he = c.he ∧ (cRoot c s x).vs = c.vs ∧ (cRoot c s x).hy = c.hy ∧ (cRoot c s x).la = c.la ∧ (cRoot c s x).tl = c.tl ∧ (cRoot c s x).dp = c.dp ∧ (cRoot c s x).pa = c.pa ∧ (cRoot c s x).K = c.K ∧ (cRoot c s x).ar = c.ar ∧ (cRoot c s x).cn = c.cn ∧ (cRoot c s x).lg = c.lg ∧ (cRoot c s x).P = (if x = 0 then c.P else (c.P.1, c.P.2.1, u1 c.P.2.2 x 0)) ∧ (cRoot c s x).ck = c.ck ∧ (cRoot c s x).cz = c.cz ∧ (cRoot c s x).l1 = c.l1 ∧ (cRoot c s x).f1 = c.f1 ∧ (cRoot c s x).nv = c.nv ∧ (cRoot c s x).pu = c.pu ∧ (cRoot c s x).st = c.st ∧ (cRoot c s x).fk = c.fk ∧ (cRoot c s x).fv = c.fv ∧ (cRoot c s x).E = c.E ∧ (cRoot c s x).N = c.N ∧ (cRoot c s x).rO = c.rO ∧ (cRoot c s x).rP = c.rP ∧ (cRoot c s x).rT = c.rT ∧ (cRoot c s x).rQ = c.rQ := ⟨rfl, rfl, rfl, rfl, rfl, rfl, rfl, rfl, rfl, rfl, rfl, rfl, rfl, rfl, rfl, rfl, rfl, rfl, rfl, rfl, rfl, rfl, rfl, rfl, rfl, rfl, rfl, rfl, rfl, rfl, rfl, rfl⟩
theorem HcSlg (c : CS) (v : Nat → Nat) : (c.slg v).cc = c.cc ∧ (c.slg v).vn = c.vn ∧ (c.slg v).vx = c.vx ∧ (c.slg v).kd = c.kd ∧ (c.slg v).ro = c.ro ∧ (c.slg v).he = c.he ∧ (c.slg v).vs = c.vs ∧ (c.slg v).hy = c.hy ∧ (c.slg v).la = c.la ∧ (c.slg v).tl = c.tl ∧ (c.slg v).dp = c.dp ∧ (c.slg v).pa = c.pa ∧ (c.slg v).K = c.K ∧ (c.slg v).ar = c.ar ∧ (c.slg v).cn = c.cn ∧ (c.slg v).lg = v ∧ (c.slg v).P = c.P ∧ (c.slg v).ck = c.ck ∧ (c.slg v).cz = c.cz ∧ (c.slg v).l1 = c.l1 ∧ (c.slg v).f1 = c.f1 ∧ (c.slg v).nv = c.nv ∧ (c.slg v).pu = c.pu ∧ (c.slg v).st = c.st ∧ (c.slg v).fk = c.fk ∧ (c.slg v).fv = c.fv ∧ (c.slg v).E = c.E ∧ (c.slg v).N = c.N ∧ (c.slg v).rO = c.rO ∧ (c.slg v).rP = c.rP ∧ (c.slg v).rT = c.rT ∧ (c.slg v).rQ = c.rQ := ⟨rfl, rfl, rfl, rfl, rfl, rfl, rfl, rfl, rfl, rfl, rfl, rfl, rfl, rfl, rfl, rfl, rfl, rfl, rfl, rfl, rfl, rfl, rfl, rfl, rfl, rfl, rfl, rfl, rfl, rfl, rfl, rfl⟩
theorem HcRsz (c : CS) (s a z : Nat) : (cRsz c s a z).cc = c.cc ∧ (cRsz c s a z).vn = c.vn ∧ (cRsz c s a z).vx = c.vx ∧ (cRsz c s a z).kd = c.kd ∧ (cRsz c s a z).ro = c.ro ∧ (cRsz c s a z).he = c.he ∧ (cRsz c s a z).vs = c.vs ∧ (cRsz c s a z).hy = c.hy ∧ (cRsz c s a z).la = c.la ∧ (cRsz c s a z).tl = c.tl ∧ (cRsz c s a z).dp = c.dp ∧ (cRsz c s a z).pa = c.pa ∧ (cRsz c s a z).K = c.K ∧ (cRsz c s a z).ar = c.ar ∧ (cRsz c s a z).cn = c.cn ∧ (cRsz c s a z).lg = u1 c.lg s (c.lg s + Nat.log2 z - Nat.log2 (c.cz a)) ∧ (cRsz c s a z).P = c.P ∧ (cRsz c s a z).ck = c.ck ∧ (cRsz c s a z).cz = u1 c.cz a z ∧ (cRsz c s a z).l1 = c.l1 ∧ (cRsz c s a z).f1 = c.f1 ∧ (cRsz c s a z).nv = c.nv ∧ (cRsz c s a z).pu = c.pu ∧ (cRsz c s a z).st = c.st ∧ (cRsz c s a z).fk = c.fk ∧ (cRsz c s a z).fv = c.fv ∧ (cRsz c s a z).E = c.E ∧ (cRsz c s a z).N = c.N ∧ (cRsz c s a z).rO = c.rO ∧ (cRsz c s a z).rP = c.rP ∧ (cRsz c s a z).rT = c.rT ∧ (cRsz c s a z).rQ = c.rQ := ⟨rfl, rfl, rfl, rfl, rfl, rfl, rfl, rfl, rfl, rfl, rfl, rfl, rfl, rfl, rfl, rfl, rfl, rfl, rfl, rfl, rfl, rfl, rfl, rfl, rfl, rfl, rfl, rfl, rfl, rfl, rfl, rfl⟩
theorem HcSP (c : CS) (v : PT) : (c.sP v).cc = c.cc ∧ (c.sP v).vn = c.vn ∧ (c.sP v).vx = c.vx ∧ (c.sP v).kd = c.kd ∧ (c.sP v).ro = c.ro ∧ (c.sP v).he = c.he ∧ (c.sP v).vs = c.vs ∧ (c.sP v).hy = c.hy ∧ (c.sP v).la = c.la ∧ (c.sP v).tl = c.tl ∧ (c.sP v).dp = c.dp ∧ (c.sP v).pa = c.pa ∧ (c.sP v).K = c.K ∧ (c.sP v).ar = c.ar ∧ (c.sP v).cn = c.cn ∧ (c.sP v).lg = c.lg ∧ (c.sP v).P = v ∧ (c.sP v).ck = c.ck ∧ (c.sP v).cz = c.cz ∧ (c.sP v).l1 = c.l1 ∧ (c.sP v).f1 = c.f1 ∧ (c.sP v).nv = c.nv ∧ (c.sP v).pu = c.pu ∧ (c.sP v).st = c.st ∧ (c.sP v).fk = c.fk ∧ (c.sP v).fv = c.fv ∧ (c.sP v).E = c.E ∧ (c.sP v).N = c.N ∧ (c.sP v).rO = c.rO ∧ (c.sP v).rP = c.rP ∧ (c.sP v).rT = c.rT ∧ (c.sP v).rQ = c.rQ := ⟨rfl, rfl, rfl, rfl, rfl, rfl, rfl, rfl, rfl, rfl, rfl, rfl, rfl, rfl, rfl, rfl, rfl, rfl, rfl, rfl, rfl, rfl, rfl, rfl, rfl, rfl, rfl, rfl, rfl, rfl, rfl, rfl⟩
theorem HcSet (c : CS) (s n : Nat) (T : Nat → Nat) (κ : Nat) (z' : Nat → Nat) (G0 : Nat) : (cSet c s n T κ z' G0).cc = c.cc ∧ (cSet c s n T κ z' G0).vn = c.vn ∧ (cSet c s n T κ z' G0).vx = c.vx ∧ (cSet c s n T κ z' G0).kd = c.kd ∧ (cSet c s n T κ z' G0).ro = u1 c.ro s n ∧ (cSet c s n T κ z' G0).he = c.he ∧ (cSet c s n T κ z' G0).vs = c.vs ∧ (cSet c s n T κ z' G0).hy = c.hy ∧ (cSet c s n T κ z' G0).la = u1 c.la s 0 ∧ (cSet c s n T κ z' G0).tl = c.tl ∧ (cSet c s n T κ z' G0).dp = c.dp ∧ (cSet c s n T κ z' G0).pa = c.pa ∧ (cSet c s n T κ z' G0).K = c.K ∧ (cSet c s n T κ z' G0).ar = c.ar ∧ (cSet c s n T κ z' G0).cn = c.cn ∧ (cSet c s n T κ z' G0).lg = u1 c.lg s (G0 + Gs (Ms T κ) z') ∧ (cSet c s n T κ z' G0).P = (tuF 20003 c.P n 0).1 ∧ (cSet c s n T κ z' G0).ck = c.ck ∧ (cSet c s n T κ z' G0).cz = (fun a => if T a = κ then z' a else c.cz a) ∧ (cSet c s n T κ z' G0).l1 = c.l1 ∧ (cSet c s n T κ z' G0).f1 = c.f1 ∧ (cSet c s n T κ z' G0).nv = c.nv ∧ (cSet c s n T κ z' G0).pu = c.pu ∧ (cSet c s n T κ z' G0).st = u1 c.st s (c.st s + nI (tuF 20003 c.P n 0).2) ∧ (cSet c s n T κ z' G0).fk = c.fk ∧ (cSet c s n T κ z' G0).fv = c.fv ∧ (cSet c s n T κ z' G0).E = c.E ∧ (cSet c s n T κ z' G0).N = c.N ∧ (cSet c s n T κ z' G0).rO = c.rO ∧ (cSet c s n T κ z' G0).rP = c.rP ∧ (cSet c s n T κ z' G0).rT = c.rT ∧ (cSet c s n T κ z' G0).rQ = c.rQ := ⟨rfl, rfl, rfl, rfl, rfl, rfl, rfl, rfl, rfl, rfl, rfl, rfl, rfl, rfl, rfl, rfl, rfl, rfl, rfl, rfl, rfl, rfl, rfl, rfl, rfl, rfl, rfl, rfl, rfl, rfl, rfl, rfl⟩
theorem HmRg (m : MS) (s n : Nat) : (mRg m s n).kd = m.kd ∧ (mRg m s n).rt = u1 m.rt s (m.P.2.1 n) ∧ (mRg m s n).pl = m.pl ∧ (mRg m s n).nu = m.nu ∧ (mRg m s n).cs = m.cs ∧ (mRg m s n).it = m.it ∧ (mRg m s n).nx = m.nx ∧ (mRg m s n).K = m.K ∧ (mRg m s n).E = m.E ∧ (mRg m s n).nm = m.nm ∧ (mRg m s n).fn = n ∧ (mRg m s n).im = m.im ∧ (mRg m s n).fi = m.fi ∧ (mRg m s n).se = m.se ∧ (mRg m s n).P = (if m.P.2.1 n = 0 then (u1 m.P.1 n m.fn, m.P.2) else (u1 m.P.1 n m.fn, m.P.2.1, u1 m.P.2.2 (m.P.2.1 n) 0)) ∧ (mRg m s n).ky = m.ky ∧ (mRg m s n).lV = m.lV ∧ (mRg m s n).fV = m.fV ∧ (mRg m s n).pu = m.pu ∧ (mRg m s n).st = m.st ∧ (mRg m s n).sp = m.sp ∧ (mRg m s n).fk = m.fk ∧ (mRg m s n).fv = m.fv ∧ (mRg m s n).N = m.N ∧ (mRg m s n).rO = m.rO ∧ (mRg m s n).rP = m.rP ∧ (mRg m s n).rT = m.rT ∧ (mRg m s n).rQ = m.rQ := ⟨rfl, rfl, rfl, rfl, rfl, rfl, rfl, rfl, rfl, rfl, rfl, rfl, rfl, rfl, rfl, rfl, rfl, rfl, rfl, rfl, rfl, rfl, rfl, rfl, rfl, rfl, rfl, rfl⟩
section Jn
variable (L : Nat) (xs : Nat → Int32)
set_option maxHeartbeats 4000000 in
/-- the class: the last node on the right is turned up, another tree hung to its right -/
theorem c_jn {B : AH} {d : DS} (hw : DW d) (tN : ∀ x, d.nid x ≠ 0 → tg B x = 4) {s : Nat} (hsd : d.sid (d.sa (s + 1)) = s + 1) (ts : tg B (d.sa (s + 1)) = 7) (c : CS) {T z : Nat → Nat} {κ G0 a r e k tc : Nat} {Qc : PT} (κ0 : κ ≠ 0) (hT : TN T) (hW : WF c.P (ind T κ) z) (hD : ∀ x, T x = κ → d.nid (d.ph x) = x) (hDr : d.nid (d.ph r) = r) (ha : T a = κ) (hrk : T r ≠ κ) (hcz : ∀ x, T x = κ → c.cz x = z x) (hczr : r ≠ 0 → c.cz r = z r) (zr : z r ≤ 20002) (hlg : c.lg s = G0 + Sm T κ (fun x => Nat.log2 (z x))) (he : lR c.P 20003 a = (e, k)) (hQ : tuF 20003 c.P e 0 = (Qc, tc)) (te : T e = κ) (q1 : Qc.2.1 e = 0) :
    ∃ c2 c3 c4 : CS, XM L xs 165 [.ref (d.sa (s + 1)), .ref (d.ph a)] (cl B d c) = some (cl B d c2, some (.ref (d.ph e))) ∧ XM L xs 172 [.ref (d.sa (s + 1)), .ref (d.ph e)] (cl B d c2) = some (cl B d c3, none) ∧ XM L xs 181 [.ref (d.sa (s + 1)), .ref (d.ph r)] (cl B d c3) = some (cl B d c4, none) ∧ c3.ro = u1 c.ro s e ∧ (c4.P = str Qc e r ∧ c4.ro = u1 c.ro s e ∧ c4.la = u1 c.la s 0 ∧ c4.st s = c.st s + nI (k + tc) ∧ (∀ t, t ≠ s → c4.st t = c.st t) ∧ (∀ x, T x ≠ κ → c4.cz x = c.cz x) ∧ (∀ x, T x = κ → x ≠ e → c4.cz x = zf Qc x) ∧ c4.cz e = zf Qc e + z r ∧ c4.lg s + Nat.log2 (zf Qc e) = G0 + Sm T κ (fun x => Nat.log2 (zf Qc x)) + Nat.log2 (zf Qc e + z r) ∧ (∀ t, t ≠ s → c4.lg t = c.lg t)) ∧ c4.cc = c.cc ∧ c4.vn = c.vn ∧ c4.vx = c.vx ∧ c4.kd = c.kd ∧ c4.he = c.he ∧ c4.vs = c.vs ∧ c4.hy = c.hy ∧ c4.tl = c.tl ∧ c4.dp = c.dp ∧ c4.pa = c.pa ∧ c4.K = c.K ∧ c4.ar = c.ar ∧ c4.cn = c.cn ∧ c4.ck = c.ck ∧ c4.l1 = c.l1 ∧ c4.f1 = c.f1 ∧ c4.nv = c.nv ∧ c4.pu = c.pu ∧ c4.fk = c.fk ∧ c4.fv = c.fv ∧ c4.E = c.E ∧ c4.N = c.N ∧ c4.rO = c.rO ∧ c4.rP = c.rP ∧ c4.rT = c.rT ∧ c4.rQ = c.rQ := by
  have lv : ∀ b, ind T κ b ≠ 0 ↔ T b = κ := fun b => ind_ne κ0 b
  have lv0 : ∀ b, T b ≠ κ → ind T κ b = 0 := fun b hb => if_neg hb
  have hTi : TN (ind T κ) := ⟨lv0 0 (by rw [hT.1]; exact Ne.symm κ0), fun b hb => hT.2 b (by rw [(lv b).mp hb]; exact κ0)⟩
  have hDi : ∀ x, ind T κ x ≠ 0 → d.nid (d.ph x) = x := fun x hx => hD x ((lv x).mp hx)
  have ie : ∀ x, ind T κ x = κ ↔ T x = κ := fun x => ⟨fun h => (lv x).mp (by rw [h]; exact κ0), fun h => ind_eq h⟩
  have e0 : e ≠ 0 := hW.n0 ((lv e).mpr te)
  have er : e ≠ r := fun g => hrk (by rw [← g]; exact te)
  have f16 : hasF (tg B (d.sa (s + 1))) 16 = true := by rw [ts]; rfl
  have e165 := c165 L xs hw tN hsd f16 c hW hDi hTi.2 ((lv a).mpr ha)
  rw [he] at e165
  obtain ⟨c2, hc2⟩ : ∃ x, x = c.sst (u1 c.st s (c.st s + nI k)) := ⟨_, rfl⟩
  have g2 := HcSst c (u1 c.st s (c.st s + nI k))
  have e165 : XM L xs 165 [.ref (d.sa (s + 1)), .ref (d.ph a)] (cl B d c) = some (cl B d c2, some (.ref (d.ph e))) := by rw [hc2]; exact e165
  rw [← hc2] at g2
  clear hc2
  obtain ⟨g2cc, g2vn, g2vx, g2kd, g2ro, g2he, g2vs, g2hy, g2la, g2tl, g2dp, g2pa, g2K, g2ar, g2cn, g2lg, g2P, g2ck, g2cz, g2l1, g2f1, g2nv, g2pu, g2st, g2fk, g2fv, g2E, g2N, g2rO, g2rP, g2rT, g2rQ⟩ := g2
  have smi : ∀ f : Nat → Nat, Gs (Ms (ind T κ) κ) f = Sm T κ (fun x => Nat.log2 (f x)) := fun f => Ms_ind T κ0 (fun x => Nat.log2 (f x))
  obtain ⟨y1, y2, e172⟩ := c172z L xs (b := B) hw tN hsd ts c2 (T := ind T κ) (z := z) (κ := κ) (G0 := G0) κ0 (by rw [g2P]; exact hW) hTi hDi (fun x hx => ind_eq ((lv x).mp hx)) (fun x hx => by rw [g2cz]; exact hcz x ((lv x).mp hx)) (by rw [g2lg, hlg, smi]) (n := e) ((lv e).mpr te)
  rw [g2P, hQ] at y1 y2
  obtain ⟨c3, hc3⟩ : ∃ x, x = cSet c2 s e (ind T κ) κ (zf (tuF 20003 c2.P e 0).1) G0 := ⟨_, rfl⟩
  have g3 := HcSet c2 s e (ind T κ) κ (zf (tuF 20003 c2.P e 0).1) G0
  rw [← hc3] at g3 e172
  clear hc3
  rw [g2P, hQ] at g3
  obtain ⟨g3cc, g3vn, g3vx, g3kd, g3ro, g3he, g3vs, g3hy, g3la, g3tl, g3dp, g3pa, g3K, g3ar, g3cn, g3lg, g3P, g3ck, g3cz, g3l1, g3f1, g3nv, g3pu, g3st, g3fk, g3fv, g3E, g3N, g3rO, g3rP, g3rT, g3rQ⟩ := g3
  have g3P : c3.P = Qc := g3P
  have g3lg : c3.lg = u1 c2.lg s (G0 + Sm T κ (fun x => Nat.log2 (zf Qc x))) := by rw [g3lg, smi]
  have ro3 : c3.ro s = e := by rw [g3ro, u1_s]
  have cze : c3.cz e = zf Qc e := by
    rw [g3cz]
    exact if_pos (ind_eq te)
  have czr : r ≠ 0 → c3.cz r = z r := fun r0 => by
    rw [g3cz]
    show (if ind T κ r = κ then _ else _) = _
    rw [if_neg (fun q => hrk ((ie r).mp q)), g2cz]
    exact hczr r0
  have zfe : zf Qc e ≤ 20002 := y1.z_le hTi.2 (Or.inr ((lv e).mpr te))
  have lge : Nat.log2 (zf Qc e) ≤ Sm T κ (fun x => Nat.log2 (zf Qc x)) := by
    have := Sm_ge κ0 (fun x => Nat.log2 (zf Qc x)) [e] T hT (List.nodup_cons.mpr ⟨List.not_mem_nil, List.nodup_nil⟩) (fun x hx => by rw [List.mem_singleton.mp hx]; exact te)
    have this : Nat.log2 (zf Qc e) + 0 ≤ _ := this
    omega
  have e181 := c181 L xs hw tN c3 (s := s) (x := r) hsd ts (by rw [ro3]; exact hD e te) hDr (fun _ r0 => by
    rw [ro3, cze, czr r0, g3lg, u1_s]
    exact ⟨by omega, by omega⟩)
  obtain ⟨c4, hc4⟩ : ∃ x, x = cHrr c3 s r := ⟨_, rfl⟩
  rw [← hc4] at e181
  refine ⟨c2, c3, c4, e165, e172, e181, by rw [g3ro, g2ro], ?_⟩
  have st3 : c3.st s = c.st s + nI (k + tc) ∧ ∀ t, t ≠ s → c3.st t = c.st t := by
    rw [g3st, g2st]
    refine ⟨?_, fun t ht => ?_⟩
    · rw [u1_s, u1_s, Int32.add_assoc, nI_add]
    · rw [u1_o _ _ ht, u1_o _ _ ht]
  have cz3 : ∀ x, T x ≠ κ → c3.cz x = c.cz x := fun x hx => by
    rw [g3cz]
    show (if ind T κ x = κ then _ else _) = _
    rw [if_neg (fun q => hx ((ie x).mp q)), g2cz]
  have cz4 : ∀ x, T x = κ → c3.cz x = zf Qc x := fun x hx => by
    rw [g3cz]
    exact if_pos (ind_eq hx)
  have lg3 : ∀ t, t ≠ s → c3.lg t = c.lg t := fun t ht => by rw [g3lg, u1_o _ _ ht, g2lg]
  by_cases r0 : r = 0
  · have eq4 : c4 = c3 := by rw [hc4]; unfold cHrr; rw [if_pos (Or.inr r0)]
    have zr0 : z r = 0 := by rw [r0]; exact hW.2.1
    rw [eq4]
    refine ⟨⟨?_, by rw [g3ro, g2ro], by rw [g3la, g2la], st3.1, st3.2, cz3, fun x hx _ => cz4 x hx, by rw [cze, zr0, Nat.add_zero], ?_, lg3⟩, by rw [g3cc, g2cc], by rw [g3vn, g2vn], by rw [g3vx, g2vx], by rw [g3kd, g2kd], by rw [g3he, g2he], by rw [g3vs, g2vs], by rw [g3hy, g2hy], by rw [g3tl, g2tl], by rw [g3dp, g2dp], by rw [g3pa, g2pa], by rw [g3K, g2K], by rw [g3ar, g2ar], by rw [g3cn, g2cn], by rw [g3ck, g2ck], by rw [g3l1, g2l1], by rw [g3f1, g2f1], by rw [g3nv, g2nv], by rw [g3pu, g2pu], by rw [g3fk, g2fk], by rw [g3fv, g2fv], by rw [g3E, g2E], by rw [g3N, g2N], by rw [g3rO, g2rO], by rw [g3rP, g2rP], by rw [g3rT, g2rT], by rw [g3rQ, g2rQ]⟩
    · rw [g3P, r0, (str_0 Qc (x := 0) q1).2]
    · rw [g3lg, u1_s, zr0, Nat.add_zero]
  · have eq4 : c4 = cRsz (c3.sP (str Qc e r)) s e (zf Qc e + z r) := by
      rw [hc4]
      unfold cHrr
      rw [if_neg (fun q => q.elim (fun h => e0 (ro3.symm.trans h)) r0), ro3, g3P, cze, czr r0]
    obtain ⟨c5, hc5⟩ : ∃ x, x = c3.sP (str Qc e r) := ⟨_, rfl⟩
    have g5 := HcSP c3 (str Qc e r)
    rw [← hc5] at g5 eq4
    have g4 := HcRsz c5 s e (zf Qc e + z r)
    rw [← eq4] at g4
    clear eq4 hc4 hc5
    obtain ⟨g5cc, g5vn, g5vx, g5kd, g5ro, g5he, g5vs, g5hy, g5la, g5tl, g5dp, g5pa, g5K, g5ar, g5cn, g5lg, g5P, g5ck, g5cz, g5l1, g5f1, g5nv, g5pu, g5st, g5fk, g5fv, g5E, g5N, g5rO, g5rP, g5rT, g5rQ⟩ := g5
    obtain ⟨g4cc, g4vn, g4vx, g4kd, g4ro, g4he, g4vs, g4hy, g4la, g4tl, g4dp, g4pa, g4K, g4ar, g4cn, g4lg, g4P, g4ck, g4cz, g4l1, g4f1, g4nv, g4pu, g4st, g4fk, g4fv, g4E, g4N, g4rO, g4rP, g4rT, g4rQ⟩ := g4
    refine ⟨⟨by rw [g4P, g5P], by rw [g4ro, g5ro, g3ro, g2ro], by rw [g4la, g5la, g3la, g2la], by rw [g4st, g5st]; exact st3.1, fun t ht => by rw [g4st, g5st]; exact st3.2 t ht, fun x hx => ?_, fun x hx hxe => ?_, by rw [g4cz, u1_s], ?_, fun t ht => by rw [g4lg, u1_o _ _ ht, g5lg]; exact lg3 t ht⟩, by rw [g4cc, g5cc, g3cc, g2cc], by rw [g4vn, g5vn, g3vn, g2vn], by rw [g4vx, g5vx, g3vx, g2vx], by rw [g4kd, g5kd, g3kd, g2kd], by rw [g4he, g5he, g3he, g2he], by rw [g4vs, g5vs, g3vs, g2vs], by rw [g4hy, g5hy, g3hy, g2hy], by rw [g4tl, g5tl, g3tl, g2tl], by rw [g4dp, g5dp, g3dp, g2dp], by rw [g4pa, g5pa, g3pa, g2pa], by rw [g4K, g5K, g3K, g2K], by rw [g4ar, g5ar, g3ar, g2ar], by rw [g4cn, g5cn, g3cn, g2cn], by rw [g4ck, g5ck, g3ck, g2ck], by rw [g4l1, g5l1, g3l1, g2l1], by rw [g4f1, g5f1, g3f1, g2f1], by rw [g4nv, g5nv, g3nv, g2nv], by rw [g4pu, g5pu, g3pu, g2pu], by rw [g4fk, g5fk, g3fk, g2fk], by rw [g4fv, g5fv, g3fv, g2fv], by rw [g4E, g5E, g3E, g2E], by rw [g4N, g5N, g3N, g2N], by rw [g4rO, g5rO, g3rO, g2rO], by rw [g4rP, g5rP, g3rP, g2rP], by rw [g4rT, g5rT, g3rT, g2rT], by rw [g4rQ, g5rQ, g3rQ, g2rQ]⟩
    · rw [g4cz, g5cz, u1_o _ _ (fun q => hx (by rw [q]; exact te))]
      exact cz3 x hx
    · rw [g4cz, g5cz, u1_o _ _ hxe]
      exact cz4 x hx
    · rw [g4lg, u1_s, g5lg, g5cz, g3lg, u1_s, cze]
      omega
end Jn
