-- splitOff
theorem HcCn (c : CS) (s a e f : Nat) : (cCn c s a e f).cc = c.cc ∧ (cCn c s a e f).vn = c.vn ∧ (cCn c s a e f).vx = c.vx ∧ (cCn c s a e f).kd = c.kd ∧ (cCn c s a e f).ro = c.ro ∧ (cCn c s a e f).he = u1 c.he s a ∧ (cCn c s a e f).vs = u1 c.vs s e ∧ (cCn c s a e f).hy = c.hy ∧ (cCn c s a e f).la = c.la ∧ (cCn c s a e f).tl = c.tl ∧ (cCn c s a e f).dp = c.dp ∧ (cCn c s a e f).pa = c.pa ∧ (cCn c s a e f).K = c.K ∧ (cCn c s a e f).ar = c.ar ∧ (cCn c s a e f).cn = c.cn ∧ (cCn c s a e f).lg = u1 c.lg s f ∧ (cCn c s a e f).P = c.P ∧ (cCn c s a e f).ck = c.ck ∧ (cCn c s a e f).cz = c.cz ∧ (cCn c s a e f).l1 = c.l1 ∧ (cCn c s a e f).f1 = c.f1 ∧ (cCn c s a e f).nv = c.nv ∧ (cCn c s a e f).pu = c.pu ∧ (cCn c s a e f).st = c.st ∧ (cCn c s a e f).fk = c.fk ∧ (cCn c s a e f).fv = c.fv ∧ (cCn c s a e f).E = c.E ∧ (cCn c s a e f).N = c.N ∧ (cCn c s a e f).rO = c.rO ∧ (cCn c s a e f).rP = c.rP ∧ (cCn c s a e f).rT = c.rT ∧ (cCn c s a e f).rQ = c.rQ := ⟨rfl, rfl, rfl, rfl, rfl, rfl, rfl, rfl, rfl, rfl, rfl, rfl, rfl, rfl, rfl, rfl, rfl, rfl, rfl, rfl, rfl, rfl, rfl, rfl, rfl, rfl, rfl, rfl, rfl, rfl, rfl, rfl⟩
section C177
variable (L : Nat) (xs : Nat → Int32)
set_option maxHeartbeats 4000000 in
theorem c177_t {B : AH} {d : DS} (hw : DW d) (hBd : Bd B d) (tN : ∀ x, d.nid x ≠ 0 → tg B x = 4) {s t : Nat} (hsd : d.sid (d.sa (s + 1)) = s + 1) (ts : tg B (d.sa (s + 1)) = 7) (htd : d.sid (d.sa (t + 1)) = t + 1) (tt : tg B (d.sa (t + 1)) = 7) (st : s ≠ t) (c : CS) {T z : Nat → Nat} {r : Nat} (hW : WF c.P T z) (hT : TN T) (hD : ∀ x, LZ T x → d.nid (d.ph x) = x) (hro : c.ro t = r) (hr : r ≠ 0 → T r = t + 1 ∧ c.P.2.2 r = 0) (uq : ∀ x, T x = t + 1 → c.P.2.2 x = 0 → x = r) (hr0 : r = 0 → ∀ x, T x ≠ t + 1) (hz : z r ≤ 20000) (hcz : ∀ x, T x = t + 1 → c.cz x = z x) (h1 : c.he t = 0) (h2 : c.vs t = 0) (h3 : c.lg t = 0) (g1 : c.he s = Sm T (s + 1) (fun _ => 1) + Sm T (t + 1) (fun _ => 1)) (g2 : c.vs s = Sm T (s + 1) c.nv + Sm T (t + 1) c.nv) (g3 : c.lg s = Sm T (s + 1) (fun x => Nat.log2 (z x)) + Sm T (t + 1) (fun x => Nat.log2 (z x))) (k : Int64) (l2 l4 : Nat) :
    ∃ c5 : CS, X L xs 177 106 [.ref (d.sa (s + 1)), .long k, .null, .ref (d.sa (t + 1)), .ref l4] [] (cl B d c) = some (cl (bWk B 0 0) d c5, none) ∧ (c5.he s = Sm T (s + 1) (fun _ => 1) ∧ c5.he t = Sm T (t + 1) (fun _ => 1) ∧ c5.vs s = Sm T (s + 1) c.nv ∧ c5.vs t = Sm T (t + 1) c.nv ∧ c5.lg s = Sm T (s + 1) (fun x => Nat.log2 (z x)) ∧ c5.lg t = Sm T (t + 1) (fun x => Nat.log2 (z x)) ∧ ∀ u, u ≠ s → u ≠ t → c5.he u = c.he u ∧ c5.vs u = c.vs u ∧ c5.lg u = c.lg u) ∧ c5.cc = c.cc ∧ c5.vn = c.vn ∧ c5.vx = c.vx ∧ c5.kd = c.kd ∧ c5.ro = c.ro ∧ c5.hy = c.hy ∧ c5.la = c.la ∧ c5.tl = c.tl ∧ c5.dp = c.dp ∧ c5.pa = c.pa ∧ c5.K = c.K ∧ c5.ar = c.ar ∧ c5.cn = c.cn ∧ c5.P = c.P ∧ c5.ck = c.ck ∧ c5.cz = c.cz ∧ c5.l1 = c.l1 ∧ c5.f1 = c.f1 ∧ c5.nv = c.nv ∧ c5.pu = c.pu ∧ c5.st = c.st ∧ c5.fk = c.fk ∧ c5.fv = c.fv ∧ c5.E = c.E ∧ c5.N = c.N ∧ c5.rO = c.rO ∧ c5.rP = c.rP ∧ c5.rT = c.rT ∧ c5.rQ = c.rQ := by
  have τ0 : t + 1 ≠ 0 := Nat.succ_ne_zero t
  have lz : LZ T (c.ro t) := by
    rw [hro]
    by_cases g : r = 0
    · exact Or.inl g
    · exact Or.inr (by rw [(hr g).1]; exact τ0)
  have lv : ∀ b, ind T (t + 1) b ≠ 0 ↔ T b = t + 1 := fun b => ind_ne τ0 b
  have hWi : WF c.P (ind T (t + 1)) z := WF.ind (l := c.P.1) (r := c.P.2.1) (u := c.P.2.2) (u' := c.P.2.2) hW τ0 (fun _ _ => rfl)
  have hTi : TN (ind T (t + 1)) := ⟨by unfold ind; rw [hT.1, if_neg (Ne.symm τ0)], fun b hb => hT.2 b (by rw [(lv b).mp hb]; exact τ0)⟩
  have lzi : LZ (ind T (t + 1)) (c.ro t) := by
    rw [hro]
    by_cases g : r = 0
    · exact Or.inl g
    · exact Or.inr ((lv r).mpr (hr g).1)
  have e178 := c178 L xs hw hBd tN htd tt c hWi hTi (fun x hx => hD x (hx.elim Or.inl (fun g => Or.inr (by rw [(lv x).mp g]; exact τ0)))) lzi (fun g => by rw [hro] at g ⊢; exact (hr g).2) (by rw [hro]; exact hz) (fun x hx => by
    rw [hcz x ((lv x).mp hx)]
    have := hWi.z_le hTi.2 (Or.inr hx)
    omega) h1 h2 h3
  rw [hro] at e178
  have sums : z r = Sm T (t + 1) (fun _ => 1) ∧ ((pdF 20003 c.P r 0).map (fun p => c.nv p.1)).sum = Sm T (t + 1) c.nv ∧ ((pdF 20003 c.P r 0).map (fun p => Nat.log2 (c.cz p.1))).sum = Sm T (t + 1) (fun x => Nat.log2 (z x)) := by
    by_cases g : r = 0
    · rw [g, pdF_0, Sm_none (hr0 g), Sm_none (hr0 g), Sm_none (hr0 g)]
      exact ⟨hW.2.1, rfl, rfl⟩
    · obtain ⟨r1, r2⟩ := hr g
      have tr : T r ≠ 0 := by rw [r1]; exact τ0
      have sp := fun f => Sm_pd hW hT (r := r) (f := 20003) (d := 0) tr (by omega) (fun x hx hu => uq x (hx.trans r1) hu) f
      have sr := Sm_root hW hT tr (fun x hx hu => uq x (hx.trans r1) hu)
      rw [r1] at sp sr
      refine ⟨sr.symm, ?_, ?_⟩
      · rw [sp c.nv, List.map_map]; rfl
      · have e := sp (fun x => Nat.log2 (c.cz x))
        rw [List.map_map] at e
        rw [Sm_congr hT τ0 (f := fun x => Nat.log2 (z x)) (g := fun x => Nat.log2 (c.cz x)) (fun x hx => by show Nat.log2 (z x) = Nat.log2 (c.cz x); rw [hcz x hx])]
        exact e.symm
  rw [sums.1, sums.2.1, sums.2.2] at e178
  have nb : ∀ x, x ≤ nn B → tg (bWk B 0 0) x = tg B x := fun x hx => by
    show u1 B.2.2.1 (nn B + 1) 9 x = _
    exact u1_o _ _ (by omega)
  have ts' : tg (bWk B 0 0) (d.sa (s + 1)) = 7 := by rw [nb _ (hBd.2.2.2 _ (by rw [hsd]; exact Nat.succ_ne_zero s))]; exact ts
  have tt' : tg (bWk B 0 0) (d.sa (t + 1)) = 7 := by rw [nb _ (hBd.2.2.2 _ (by rw [htd]; exact τ0))]; exact tt
  obtain ⟨c4, hc4⟩ : ∃ x, x = cCn c t (Sm T (t + 1) (fun _ => 1)) (Sm T (t + 1) c.nv) (Sm T (t + 1) (fun x => Nat.log2 (z x))) := ⟨_, rfl⟩
  have g4 := HcCn c t (Sm T (t + 1) (fun _ => 1)) (Sm T (t + 1) c.nv) (Sm T (t + 1) (fun x => Nat.log2 (z x)))
  rw [← hc4] at g4 e178
  clear hc4
  obtain ⟨g4cc, g4vn, g4vx, g4kd, g4ro, g4he, g4vs, g4hy, g4la, g4tl, g4dp, g4pa, g4K, g4ar, g4cn, g4lg, g4P, g4ck, g4cz, g4l1, g4f1, g4nv, g4pu, g4st, g4fk, g4fv, g4E, g4N, g4rO, g4rP, g4rT, g4rQ⟩ := g4
  obtain ⟨c5, hc5⟩ : ∃ x, x = cCn c4 s (c4.he s - c4.he t) (c4.vs s - c4.vs t) (c4.lg s - c4.lg t) := ⟨_, rfl⟩
  have g5 := HcCn c4 s (c4.he s - c4.he t) (c4.vs s - c4.vs t) (c4.lg s - c4.lg t)
  rw [← hc5] at g5
  obtain ⟨g5cc, g5vn, g5vx, g5kd, g5ro, g5he, g5vs, g5hy, g5la, g5tl, g5dp, g5pa, g5K, g5ar, g5cn, g5lg, g5P, g5ck, g5cz, g5l1, g5f1, g5nv, g5pu, g5st, g5fk, g5fv, g5E, g5N, g5rO, g5rP, g5rT, g5rQ⟩ := g5
  have es : c4.he s = c.he s ∧ c4.vs s = c.vs s ∧ c4.lg s = c.lg s := by
    rw [g4he, g4vs, g4lg, u1_o _ _ st, u1_o _ _ st, u1_o _ _ st]
    exact ⟨rfl, rfl, rfl⟩
  have et : c4.he t = Sm T (t + 1) (fun _ => 1) ∧ c4.vs t = Sm T (t + 1) c.nv ∧ c4.lg t = Sm T (t + 1) (fun x => Nat.log2 (z x)) := by
    rw [g4he, g4vs, g4lg, u1_s, u1_s, u1_s]
    exact ⟨rfl, rfl, rfl⟩
  have ts0 : t ≠ s := Ne.symm st
  refine ⟨c5, ?_, ⟨?_, ?_, ?_, ?_, ?_, ?_, fun u u1' u2 => ?_⟩, g5cc.trans g4cc, g5vn.trans g4vn, g5vx.trans g4vx, g5kd.trans g4kd, g5ro.trans g4ro, g5hy.trans g4hy, g5la.trans g4la, g5tl.trans g4tl, g5dp.trans g4dp, g5pa.trans g4pa, g5K.trans g4K, g5ar.trans g4ar, g5cn.trans g4cn, g5P.trans g4P, g5ck.trans g4ck, g5cz.trans g4cz, g5l1.trans g4l1, g5f1.trans g4f1, g5nv.trans g4nv, g5pu.trans g4pu, g5st.trans g4st, g5fk.trans g4fk, g5fv.trans g4fv, g5E.trans g4E, g5N.trans g4N, g5rO.trans g4rO, g5rP.trans g4rP, g5rT.trans g4rT, g5rQ.trans g4rQ⟩
  · rw [k_177_106]
    simp only [Hcl, gd_t, decide_true, Bool.and_self, HQ, HZ, tt, ts, dS hw htd, cc_6_87_7, e178, bV_s, ts', tt', HF7, Rs d hsd, Rs d htd]
    rw [show nI (c4.he s) - nI (c4.he t) = nI (c4.he s - c4.he t) from pk_sub (by rw [es.1, et.1, g1]; omega), cl_he _ hw _ hsd, k_177_123]
    simp only [Hcl, gd_t, decide_true, Bool.and_self, HQ, HZ, ts', tt', HF7, Rs d hsd, Rs d htd, Uhe]
    rw [show nI (c4.vs s) - nI (c4.vs t) = nI (c4.vs s - c4.vs t) from pk_sub (by rw [es.2.1, et.2.1, g2]; omega), cl_vs _ hw _ hsd, k_177_136]
    simp only [Hcl, gd_t, decide_true, Bool.and_self, HQ, HZ, ts', tt', HF7, Rs d hsd, Rs d htd, Uhe, Uvs]
    rw [show nI (c4.lg s) - nI (c4.lg t) = nI (c4.lg s - c4.lg t) from pk_sub (by rw [es.2.2, et.2.2, g3]; omega), cl_lg _ hw _ hsd, k_177_149]
    rw [hc5]
    rfl
  · rw [g5he, u1_s, es.1, et.1, g1]; omega
  · rw [g5he, u1_o _ _ ts0]; exact et.1
  · rw [g5vs, u1_s, es.2.1, et.2.1, g2]; omega
  · rw [g5vs, u1_o _ _ ts0]; exact et.2.1
  · rw [g5lg, u1_s, es.2.2, et.2.2, g3]; omega
  · rw [g5lg, u1_o _ _ ts0]; exact et.2.2
  · rw [g5he, g5vs, g5lg, g4he, g4vs, g4lg, u1_o _ _ u1', u1_o _ _ u1', u1_o _ _ u1', u1_o _ _ u2, u1_o _ _ u2, u1_o _ _ u2]
    exact ⟨rfl, rfl, rfl⟩
set_option maxHeartbeats 8000000 in
theorem c177_c {B : AH} {d : DS} (hw : DW d) (hBd : Bd B d) (tN : ∀ x, d.nid x ≠ 0 → tg B x = 4) {s t n : Nat} (hsd : d.sid (d.sa (s + 1)) = s + 1) (ts : tg B (d.sa (s + 1)) = 7) (htd : d.sid (d.sa (t + 1)) = t + 1) (tt : tg B (d.sa (t + 1)) = 7) (st : s ≠ t) (c : CS) {T z : Nat → Nat} (hW : WF c.P T z) (hT : TN T) (hD : ∀ x, LZ T x → d.nid (d.ph x) = x) (hn : T n = s + 1) (hro : c.ro s = n) (hu : c.P.2.2 n = 0) (uq : ∀ x, T x = s + 1 → c.P.2.2 x = 0 → x = n) (no : ∀ x, T x ≠ t + 1) (hzb : ∀ x, LZ T x → z x ≤ 20000) (hcz : ∀ x, T x = s + 1 → c.cz x = z x) (h1 : c.he t = 0) (h2 : c.vs t = 0) (h3 : c.lg t = 0) (g1 : c.he s = Sm T (s + 1) (fun _ => 1)) (g2 : c.vs s = Sm T (s + 1) c.nv) (g3 : c.lg s = Sm T (s + 1) (fun x => Nat.log2 (z x))) (k : Int64) {a r : Nat} (hea : a = if c.ck n < k then n else c.P.1 n) (her : r = if c.ck n < k then c.P.2.1 n else n) :
    ∃ (c5 : CS) (T2 z' : Nat → Nat), X L xs 177 19 [.ref (d.sa (s + 1)), .long k, .null, .ref (d.sa (t + 1)), .ref (d.ph n)] [] (cl B d c) = some (cl (bWk B 0 0) d c5, none) ∧ (c5.he s = Sm T2 (s + 1) (fun _ => 1) ∧ c5.he t = Sm T2 (t + 1) (fun _ => 1) ∧ c5.vs s = Sm T2 (s + 1) c.nv ∧ c5.vs t = Sm T2 (t + 1) c.nv ∧ c5.lg s = Sm T2 (s + 1) (fun x => Nat.log2 (z' x)) ∧ c5.lg t = Sm T2 (t + 1) (fun x => Nat.log2 (z' x)) ∧ ∀ u, u ≠ s → u ≠ t → c5.he u = c.he u ∧ c5.vs u = c.vs u ∧ c5.lg u = c.lg u) ∧ (WF c5.P T2 z' ∧ TN T2 ∧ (a ≠ 0 → T2 a = s + 1) ∧ (r ≠ 0 → T2 r = t + 1) ∧ (∀ x, T x ≠ s + 1 → T2 x = T x) ∧ (∀ x, T2 x = s + 1 → c5.P.2.2 x = 0 → x = a) ∧ (∀ x, T2 x = t + 1 → c5.P.2.2 x = 0 → x = r) ∧ (∀ x, T x = s + 1 ↔ (T2 x = s + 1 ∨ T2 x = t + 1))) ∧ (c5.P.1 = (if c.ck n < k then c.P.1 else u1 c.P.1 n 0) ∧ c5.P.2.1 = (if c.ck n < k then u1 c.P.2.1 n 0 else c.P.2.1) ∧ (∀ b, b ≠ 0 → c5.P.2.2 b = if b = a ∨ b = r then 0 else c.P.2.2 b) ∧ c5.ro = u1 (u1 c.ro s a) t r ∧ (∀ x, T x = s + 1 → c5.cz x = z' x) ∧ (∀ x, T x ≠ s + 1 → c5.cz x = c.cz x ∧ z' x = z x)) ∧ c5.cc = c.cc ∧ c5.vn = c.vn ∧ c5.vx = c.vx ∧ c5.kd = c.kd ∧ c5.hy = c.hy ∧ c5.la = c.la ∧ c5.tl = c.tl ∧ c5.dp = c.dp ∧ c5.pa = c.pa ∧ c5.K = c.K ∧ c5.ar = c.ar ∧ c5.cn = c.cn ∧ c5.ck = c.ck ∧ c5.l1 = c.l1 ∧ c5.f1 = c.f1 ∧ c5.nv = c.nv ∧ c5.pu = c.pu ∧ c5.st = c.st ∧ c5.fk = c.fk ∧ c5.fv = c.fv ∧ c5.E = c.E ∧ c5.N = c.N ∧ c5.rO = c.rO ∧ c5.rP = c.rP ∧ c5.rT = c.rT ∧ c5.rQ = c.rQ := by
  have κ0 : s + 1 ≠ 0 := Nat.succ_ne_zero s
  have τ0 : t + 1 ≠ 0 := Nat.succ_ne_zero t
  have kne : s + 1 ≠ t + 1 := by omega
  have tn : T n ≠ 0 := by rw [hn]; exact κ0
  have n0 := hW.n0 tn
  have hdn := hD n (Or.inr tn)
  have t4 : tg B (d.ph n) = 4 := tN _ (by rw [hdn]; exact n0)
  obtain ⟨w1, w2, w3, w4, w5⟩ := hW.2.2 n tn
  have zn := hzb n (Or.inr tn)
  have zl := hzb _ (hW.lzl tn)
  have zr := hzb _ (hW.lzr tn)
  have czl : ∀ x, LZ T x → (x ≠ 0 → T x = s + 1) → (if x = 0 then 0 else c.cz x) = z x := fun x hx h => by
    by_cases g : x = 0
    · rw [if_pos g, g, hW.2.1]
    · rw [if_neg g]; exact hcz x (h g)
  -- the last steps, from the state at the counting
  have fin : ∀ (c3 : CS) (zc : Nat), zc ≤ z n → zc = z n - (if c.ck n < k then z (c.P.2.1 n) else z (c.P.1 n)) → X L xs 177 19 [.ref (d.sa (s + 1)), .long k, .null, .ref (d.sa (t + 1)), .ref (d.ph n)] [] (cl B d c) = X L xs 177 106 [.ref (d.sa (s + 1)), .long k, .null, .ref (d.sa (t + 1)), .ref (d.ph n)] [] (cl B d c3) → c3.P.1 = (if c.ck n < k then c.P.1 else u1 c.P.1 n 0) → c3.P.2.1 = (if c.ck n < k then u1 c.P.2.1 n 0 else c.P.2.1) → (∀ b, b ≠ 0 → c3.P.2.2 b = if b = a ∨ b = r then 0 else c.P.2.2 b) → c3.ro = u1 (u1 c.ro s a) t r → c3.cz = u1 c.cz n zc → c3.lg = u1 c.lg s (c.lg s + Nat.log2 zc - Nat.log2 (z n)) → c3.he = c.he → c3.vs = c.vs → (c3.cc = c.cc ∧ c3.vn = c.vn ∧ c3.vx = c.vx ∧ c3.kd = c.kd ∧ c3.hy = c.hy ∧ c3.la = c.la ∧ c3.tl = c.tl ∧ c3.dp = c.dp ∧ c3.pa = c.pa ∧ c3.K = c.K ∧ c3.ar = c.ar ∧ c3.cn = c.cn ∧ c3.ck = c.ck ∧ c3.l1 = c.l1 ∧ c3.f1 = c.f1 ∧ c3.nv = c.nv ∧ c3.pu = c.pu ∧ c3.st = c.st ∧ c3.fk = c.fk ∧ c3.fv = c.fv ∧ c3.E = c.E ∧ c3.N = c.N ∧ c3.rO = c.rO ∧ c3.rP = c.rP ∧ c3.rT = c.rT ∧ c3.rQ = c.rQ) → ∃ (c5 : CS) (T2 z' : Nat → Nat), X L xs 177 19 [.ref (d.sa (s + 1)), .long k, .null, .ref (d.sa (t + 1)), .ref (d.ph n)] [] (cl B d c) = some (cl (bWk B 0 0) d c5, none) ∧ (c5.he s = Sm T2 (s + 1) (fun _ => 1) ∧ c5.he t = Sm T2 (t + 1) (fun _ => 1) ∧ c5.vs s = Sm T2 (s + 1) c.nv ∧ c5.vs t = Sm T2 (t + 1) c.nv ∧ c5.lg s = Sm T2 (s + 1) (fun x => Nat.log2 (z' x)) ∧ c5.lg t = Sm T2 (t + 1) (fun x => Nat.log2 (z' x)) ∧ ∀ u, u ≠ s → u ≠ t → c5.he u = c.he u ∧ c5.vs u = c.vs u ∧ c5.lg u = c.lg u) ∧ (WF c5.P T2 z' ∧ TN T2 ∧ (a ≠ 0 → T2 a = s + 1) ∧ (r ≠ 0 → T2 r = t + 1) ∧ (∀ x, T x ≠ s + 1 → T2 x = T x) ∧ (∀ x, T2 x = s + 1 → c5.P.2.2 x = 0 → x = a) ∧ (∀ x, T2 x = t + 1 → c5.P.2.2 x = 0 → x = r) ∧ (∀ x, T x = s + 1 ↔ (T2 x = s + 1 ∨ T2 x = t + 1))) ∧ (c5.P.1 = (if c.ck n < k then c.P.1 else u1 c.P.1 n 0) ∧ c5.P.2.1 = (if c.ck n < k then u1 c.P.2.1 n 0 else c.P.2.1) ∧ (∀ b, b ≠ 0 → c5.P.2.2 b = if b = a ∨ b = r then 0 else c.P.2.2 b) ∧ c5.ro = u1 (u1 c.ro s a) t r ∧ (∀ x, T x = s + 1 → c5.cz x = z' x) ∧ (∀ x, T x ≠ s + 1 → c5.cz x = c.cz x ∧ z' x = z x)) ∧ c5.cc = c.cc ∧ c5.vn = c.vn ∧ c5.vx = c.vx ∧ c5.kd = c.kd ∧ c5.hy = c.hy ∧ c5.la = c.la ∧ c5.tl = c.tl ∧ c5.dp = c.dp ∧ c5.pa = c.pa ∧ c5.K = c.K ∧ c5.ar = c.ar ∧ c5.cn = c.cn ∧ c5.ck = c.ck ∧ c5.l1 = c.l1 ∧ c5.f1 = c.f1 ∧ c5.nv = c.nv ∧ c5.pu = c.pu ∧ c5.st = c.st ∧ c5.fk = c.fk ∧ c5.fv = c.fv ∧ c5.E = c.E ∧ c5.N = c.N ∧ c5.rO = c.rO ∧ c5.rP = c.rP ∧ c5.rT = c.rT ∧ c5.rQ = c.rQ := by
    intro c3 zc hzc ezc run q1 q2 q3 q4 q5 q6 q7 q8 us
    obtain ⟨ucc, uvn, uvx, ukd, uhy, ula, utl, udp, upa, uK, uar, ucn, uck, ul1, uf1, unv, upu, ust, ufk, ufv, uE, uN, urO, urP, urT, urQ⟩ := us
    have hW3 : WF c3.P T (u1 z n zc) := by
      by_cases lt : c.ck n < k
      · rw [if_pos lt] at q1 q2 ezc hea her
        rw [ezc]
        refine wcutR hW tn hu (fun b _ => by rw [q1]) (fun b _ => ?_) (fun b hb => ?_)
        · rw [q2]
          by_cases g : b = n
          · rw [if_pos g, g, u1_s]
          · rw [if_neg g, u1_o _ _ g]
        · rw [q3 b (hW.n0 hb), hea, her]
          by_cases g : b = n
          · rw [if_pos (Or.inl g), g, hu]
            split <;> rfl
          · by_cases g2 : b = c.P.2.1 n
            · rw [if_pos (Or.inr g2), if_pos g2]
            · rw [if_neg (fun h => h.elim g g2), if_neg g2]
      · rw [if_neg lt] at q1 q2 ezc hea her
        rw [ezc]
        refine wcutL hW tn hu (fun b _ => by rw [q2]) (fun b _ => ?_) (fun b hb => ?_)
        · rw [q1]
          by_cases g : b = n
          · rw [if_pos g, g, u1_s]
          · rw [if_neg g, u1_o _ _ g]
        · rw [q3 b (hW.n0 hb), hea, her]
          by_cases g : b = n
          · rw [if_pos (Or.inr g), g, hu]
            split <;> rfl
          · by_cases g2 : b = c.P.1 n
            · rw [if_pos (Or.inl g2), if_pos g2]
            · rw [if_neg (fun h => h.elim g2 g), if_neg g2]
    have tar : (a ≠ 0 → T a = s + 1 ∧ a ≠ r) ∧ (r ≠ 0 → T r = s + 1) := by
      have zmu := hW.mu n tn
      by_cases lt : c.ck n < k
      · rw [if_pos lt] at hea her
        refine ⟨fun _ => ⟨by rw [hea]; exact hn, fun g => ?_⟩, fun g => ?_⟩
        · rw [hea, her] at g
          have := zmu.2 (by rw [← g]; exact n0)
          rw [← g] at this
          omega
        · rw [her] at g ⊢
          exact (w2 g).2.trans hn
      · rw [if_neg lt] at hea her
        refine ⟨fun g => ⟨?_, fun h => ?_⟩, fun _ => by rw [her]; exact hn⟩
        · rw [hea] at g ⊢
          exact (w1 g).2.trans hn
        · rw [hea] at g
          rw [hea, her] at h
          have := zmu.1 g
          rw [h] at this
          omega
    obtain ⟨T2, t1, t2, t3, t4', t5, t6, t7, t8, t9, t10⟩ := cut_fin (a := a) (r := r) hW3 hT κ0 τ0 kne no (fun g => ⟨tar.2 g, by rw [q3 r g, if_pos (Or.inr rfl)]⟩) (fun g => ⟨(tar.1 g).1, by rw [q3 a g, if_pos (Or.inl rfl)], (tar.1 g).2⟩) (fun x hx hux => by
      have x0 := hW.n0 (show T x ≠ 0 by rw [hx]; exact κ0)
      rw [q3 x x0] at hux
      by_cases g : x = a ∨ x = r
      · exact g
      · rw [if_neg g] at hux
        have e := uq x hx hux
        by_cases lt : c.ck n < k
        · rw [if_pos lt] at hea; exact Or.inl (by rw [e, hea])
        · rw [if_neg lt] at her; exact Or.inr (by rw [e, her]))
    have tw : ∀ f : Nat → Nat, Sm T (s + 1) f = Sm T2 (s + 1) f + Sm T2 (t + 1) f := fun f => Sm_two t2 κ0 τ0 kne κ0 hT t9 f
    have lgu := Sm_upd hT κ0 (fun x => Nat.log2 (z x)) (a := n) (Nat.log2 zc) hn
    have lge : u1 (fun x => Nat.log2 (z x)) n (Nat.log2 zc) = fun x => Nat.log2 (u1 z n zc x) := by
      funext x
      by_cases g : x = n
      · rw [g, u1_s, u1_s]
      · rw [u1_o _ _ g, u1_o _ _ g]
    rw [lge] at lgu
    have lgu : Sm T (s + 1) (fun x => Nat.log2 (u1 z n zc x)) + Nat.log2 (z n) = Sm T (s + 1) (fun x => Nat.log2 (z x)) + Nat.log2 zc := lgu
    have lz2 : ∀ x, LZ T2 x → LZ T x := fun x hx => by
      rcases hx with g | g
      · exact Or.inl g
      · refine Or.inr (fun h => g ?_)
        rw [t6 x (by rw [h]; exact Ne.symm κ0), h]
    have zz : ∀ x, u1 z n zc x ≤ z x := fun x => by
      by_cases g : x = n
      · rw [g, u1_s]; exact hzc
      · rw [u1_o _ _ g]; exact Nat.le_refl _
    have czz : ∀ x, T x = s + 1 → c3.cz x = u1 z n zc x := fun x hx => by
      rw [q5]
      by_cases g : x = n
      · rw [g, u1_s, u1_s]
      · rw [u1_o _ _ g, u1_o _ _ g]; exact hcz x hx
    have czo : ∀ x, T x ≠ s + 1 → c3.cz x = c.cz x ∧ u1 z n zc x = z x := fun x hx => by
      have xn : x ≠ n := fun g => hx (by rw [g]; exact hn)
      rw [q5, u1_o _ _ xn, u1_o _ _ xn]
      exact ⟨rfl, rfl⟩
    have rtz : LZ T r := by
      by_cases g : r = 0
      · exact Or.inl g
      · exact Or.inr (by rw [tar.2 g]; exact κ0)
    obtain ⟨c5, e5, ⟨v1, v2, v3, v4, v5, v6, v7⟩, vs⟩ := c177_t L xs hw hBd tN hsd ts htd tt st c3 (T := T2) (z := u1 z n zc) (r := r) t1 t2 (fun x hx => hD x (lz2 x hx)) (by rw [q4, u1_s]) (fun g => ⟨t4' g, by rw [q3 r g, if_pos (Or.inr rfl)]⟩) t8 t10 (by have := zz r; have := hzb r rtz; omega) (fun x hx => czz x ((t9 x).mpr (Or.inr hx))) (by rw [q7]; exact h1) (by rw [q8]; exact h2) (by rw [q6, u1_o _ _ (Ne.symm st)]; exact h3) (by rw [q7, g1, tw]) (by rw [q8, unv, g2, tw]) (by rw [q6, u1_s, g3, ← tw]; omega) k 0 (d.ph n)
    obtain ⟨vcc, vvn, vvx, vkd, vro, vhy, vla, vtl, vdp, vpa, vK, var, vcn, vP, vck, vcz, vl1, vf1, vnv, vpu, vst, vfk, vfv, vE, vN, vrO, vrP, vrT, vrQ⟩ := vs
    rw [unv] at v3 v4
    refine ⟨c5, T2, u1 z n zc, run.trans e5, ⟨v1, v2, v3, v4, v5, v6, fun u a1 a2 => ?_⟩, ⟨by rw [vP]; exact t1, t2, t3, t4', t6, by rw [vP]; exact t7, by rw [vP]; exact t8, t9⟩, ⟨by rw [vP]; exact q1, by rw [vP]; exact q2, by rw [vP]; exact q3, by rw [vro]; exact q4, by rw [vcz]; exact czz, by rw [vcz]; exact czo⟩, vcc.trans ucc, vvn.trans uvn, vvx.trans uvx, vkd.trans ukd, vhy.trans uhy, vla.trans ula, vtl.trans utl, vdp.trans udp, vpa.trans upa, vK.trans uK, var.trans uar, vcn.trans ucn, vck.trans uck, vl1.trans ul1, vf1.trans uf1, vnv.trans unv, vpu.trans upu, vst.trans ust, vfk.trans ufk, vfv.trans ufv, vE.trans uE, vN.trans uN, vrO.trans urO, vrP.trans urP, vrT.trans urT, vrQ.trans urQ⟩
    obtain ⟨a3, a4, a5⟩ := v7 u a1 a2
    rw [a3, a4, a5, q7, q8, q6, u1_o _ _ a1]
    exact ⟨rfl, rfl, rfl⟩
  have lgn : Nat.log2 (z n) ≤ c.lg s := by
    rw [g3]
    have := Sm_ge κ0 (fun x => Nat.log2 (z x)) [n] T hT (List.nodup_cons.mpr ⟨List.not_mem_nil, List.nodup_nil⟩) (fun x hx => by rw [List.mem_singleton.mp hx]; exact hn)
    have this : Nat.log2 (z n) + 0 ≤ _ := this
    omega
  by_cases lt : c.ck n < k
  · have her' : r = c.P.2.1 n := by rw [her, if_pos lt]
    have hea' : a = n := by rw [hea, if_pos lt]
    have hdr : d.nid (d.ph (c.P.2.1 n)) = c.P.2.1 n := hD _ (hW.lzr tn)
    have rcz := czl (c.P.2.1 n) (hW.lzr tn) (fun g => (w2 g).2.trans hn)
    have rn : c.P.2.1 n ≠ n := fun g => by
      have := (hW.mu n tn).2 (by rw [g]; exact n0)
      rw [g] at this
      omega
    obtain ⟨c2, hc2⟩ : ∃ x, x = cRoot c t (c.P.2.1 n) := ⟨_, rfl⟩
    have g2' := HcRoot c t (c.P.2.1 n)
    have e180 := c180 L xs hw tN c (s := t) (x := c.P.2.1 n) htd tt hdr
    rw [← hc2] at g2' e180
    clear hc2
    obtain ⟨ycc, yvn, yvx, ykd, yro, yhe, yvs, yhy, yla, ytl, ydp, ypa, yK, yar, ycn, ylg, yP, yck, ycz, yl1, yf1, ynv, ypu, yst, yfk, yfv, yE, yN, yrO, yrP, yrT, yrQ⟩ := g2'
    have P2 : c2.P.1 = c.P.1 ∧ c2.P.2.1 = c.P.2.1 ∧ ∀ b, b ≠ 0 → c2.P.2.2 b = if b = c.P.2.1 n then 0 else c.P.2.2 b := by
      rw [yP]
      by_cases r0 : c.P.2.1 n = 0
      · rw [if_pos r0]
        exact ⟨rfl, rfl, fun b b0 => by rw [if_neg (fun g => b0 (g.trans r0))]⟩
      · rw [if_neg r0]
        refine ⟨rfl, rfl, fun b b0 => ?_⟩
        by_cases g : b = c.P.2.1 n
        · rw [if_pos g, g]; exact u1_s _ _ _
        · rw [if_neg g]; exact u1_o _ _ g
    obtain ⟨P21, P22, P23⟩ := P2
    obtain ⟨c2b, hc2b⟩ : ∃ x, x = c2.sP (c2.P.1, u1 c2.P.2.1 n 0, c2.P.2.2) := ⟨_, rfl⟩
    have gb := HcSP c2 (c2.P.1, u1 c2.P.2.1 n 0, c2.P.2.2)
    rw [← hc2b] at gb
    obtain ⟨xcc, xvn, xvx, xkd, xro, xhe, xvs, xhy, xla, xtl, xdp, xpa, xK, xar, xcn, xlg, xP, xck, xcz, xl1, xf1, xnv, xpu, xst, xfk, xfv, xE, xN, xrO, xrP, xrT, xrQ⟩ := gb
    have rot : c2b.ro t = c.P.2.1 n := by rw [xro, yro, u1_s]
    have e47 := c47 L xs (b := B) hw tN c2b (a := c.P.2.1 n) hdr
    have ecz : (if c.P.2.1 n = 0 then 0 else c2b.cz (c.P.2.1 n)) = z (c.P.2.1 n) := by rw [xcz, ycz]; exact rcz
    rw [ecz] at e47
    have czn : c2b.cz n = z n := by rw [xcz, ycz]; exact hcz n hn
    have e182 := c182 L xs hw tN c2b (s := s) (a := n) (z := z n - z (c.P.2.1 n)) hsd ts hdn n0 (by omega) (by rw [czn]; omega) (by rw [czn, xlg, ylg]; omega)
    have g3' := HcRsz c2b s n (z n - z (c.P.2.1 n))
    refine fin (cRsz c2b s n (z n - z (c.P.2.1 n))) (z n - z (c.P.2.1 n)) (by omega) (by rw [if_pos lt]) ?_ ?_ ?_ (fun b b0 => ?_) ?_ ?_ ?_ ?_ ?_ ?_
    · rw [k_177_19]
      simp only [Hcl, gd_t, decide_true, Bool.and_self, HQ, HZ, t4, HF4, Rn d hdn n0, lg_cmp_ge]
      rw [if_neg (i64_nle lt), k_177_29]
      simp only [Hcl, gd_t, decide_true, Bool.and_self, HQ, HZ, t4, HF4, Rn d hdn n0, dS hw htd, tt, cc_6_51_7, e180, bV_s]
      rw [cl_P20 B hw c2 hdn n0, ← hc2b, k_177_44]
      simp only [Hcl, gd_t, decide_true, Bool.and_self, HQ, HZ, t4, HF4, Rn d hdn n0, tt, ts, HF7, Rs d htd, rot, cc_6_83_0, e47, bI_s, dS hw hsd, czn]
      rw [show nI (z n) - nI (z (c.P.2.1 n)) = nI (z n - z (c.P.2.1 n)) from pk_sub (by omega)]
      simp only [Hcl, gd_t, decide_true, Bool.and_self, HQ, HZ, cc_6_40_7, e182, bV_s]
    all_goals obtain ⟨jcc, jvn, jvx, jkd, jro, jhe, jvs, jhy, jla, jtl, jdp, jpa, jK, jar, jcn, jlg, jP, jck, jcz, jl1, jf1, jnv, jpu, jst, jfk, jfv, jE, jN, jrO, jrP, jrT, jrQ⟩ := g3'
    · rw [jP, xP, if_pos lt]; exact P21
    · rw [jP, xP, if_pos lt]
      show u1 c2.P.2.1 n 0 = _
      rw [P22]
    · rw [jP, xP]
      show c2.P.2.2 b = _
      rw [P23 b b0, hea', her']
      by_cases g : b = n
      · rw [if_pos (Or.inl g), g, hu]
        split <;> rfl
      · by_cases g2 : b = c.P.2.1 n
        · rw [if_pos g2, if_pos (Or.inr g2)]
        · rw [if_neg g2, if_neg (fun h => h.elim g g2)]
    · rw [jro, xro, yro, hea', her']
      have e1 : u1 c.ro s n = c.ro := by rw [← hro, u1_id]
      rw [e1]
    · rw [jcz, xcz, ycz]
    · rw [jlg, xlg, ylg, czn]
    · rw [jhe, xhe, yhe]
    · rw [jvs, xvs, yvs]
    · exact ⟨jcc.trans (xcc.trans ycc), jvn.trans (xvn.trans yvn), jvx.trans (xvx.trans yvx), jkd.trans (xkd.trans ykd), jhy.trans (xhy.trans yhy), jla.trans (xla.trans yla), jtl.trans (xtl.trans ytl), jdp.trans (xdp.trans ydp), jpa.trans (xpa.trans ypa), jK.trans (xK.trans yK), jar.trans (xar.trans yar), jcn.trans (xcn.trans ycn), jck.trans (xck.trans yck), jl1.trans (xl1.trans yl1), jf1.trans (xf1.trans yf1), jnv.trans (xnv.trans ynv), jpu.trans (xpu.trans ypu), jst.trans (xst.trans yst), jfk.trans (xfk.trans yfk), jfv.trans (xfv.trans yfv), jE.trans (xE.trans yE), jN.trans (xN.trans yN), jrO.trans (xrO.trans yrO), jrP.trans (xrP.trans yrP), jrT.trans (xrT.trans yrT), jrQ.trans (xrQ.trans yrQ)⟩
  · have her' : r = n := by rw [her, if_neg lt]
    have hea' : a = c.P.1 n := by rw [hea, if_neg lt]
    have hdl : d.nid (d.ph (c.P.1 n)) = c.P.1 n := hD _ (hW.lzl tn)
    have lcz := czl (c.P.1 n) (hW.lzl tn) (fun g => (w1 g).2.trans hn)
    have ln : c.P.1 n ≠ n := fun g => by
      have := (hW.mu n tn).1 (by rw [g]; exact n0)
      rw [g] at this
      omega
    obtain ⟨c2, hc2⟩ : ∃ x, x = cRoot c s (c.P.1 n) := ⟨_, rfl⟩
    have g2' := HcRoot c s (c.P.1 n)
    have e180 := c180 L xs hw tN c (s := s) (x := c.P.1 n) hsd ts hdl
    rw [← hc2] at g2' e180
    clear hc2
    obtain ⟨ycc, yvn, yvx, ykd, yro, yhe, yvs, yhy, yla, ytl, ydp, ypa, yK, yar, ycn, ylg, yP, yck, ycz, yl1, yf1, ynv, ypu, yst, yfk, yfv, yE, yN, yrO, yrP, yrT, yrQ⟩ := g2'
    have P2 : c2.P.1 = c.P.1 ∧ c2.P.2.1 = c.P.2.1 ∧ ∀ b, b ≠ 0 → c2.P.2.2 b = if b = c.P.1 n then 0 else c.P.2.2 b := by
      rw [yP]
      by_cases r0 : c.P.1 n = 0
      · rw [if_pos r0]
        exact ⟨rfl, rfl, fun b b0 => by rw [if_neg (fun g => b0 (g.trans r0))]⟩
      · rw [if_neg r0]
        refine ⟨rfl, rfl, fun b b0 => ?_⟩
        by_cases g : b = c.P.1 n
        · rw [if_pos g, g]; exact u1_s _ _ _
        · rw [if_neg g]; exact u1_o _ _ g
    obtain ⟨P21, P22, P23⟩ := P2
    obtain ⟨c2b, hc2b⟩ : ∃ x, x = c2.sP (u1 c2.P.1 n 0, c2.P.2) := ⟨_, rfl⟩
    have gb := HcSP c2 (u1 c2.P.1 n 0, c2.P.2)
    rw [← hc2b] at gb
    obtain ⟨xcc, xvn, xvx, xkd, xro, xhe, xvs, xhy, xla, xtl, xdp, xpa, xK, xar, xcn, xlg, xP, xck, xcz, xl1, xf1, xnv, xpu, xst, xfk, xfv, xE, xN, xrO, xrP, xrT, xrQ⟩ := gb
    have rot : c2b.ro s = c.P.1 n := by rw [xro, yro, u1_s]
    have e47 := c47 L xs (b := B) hw tN c2b (a := c.P.1 n) hdl
    have ecz : (if c.P.1 n = 0 then 0 else c2b.cz (c.P.1 n)) = z (c.P.1 n) := by rw [xcz, ycz]; exact lcz
    rw [ecz] at e47
    have czn : c2b.cz n = z n := by rw [xcz, ycz]; exact hcz n hn
    have e182 := c182 L xs hw tN c2b (s := s) (a := n) (z := z n - z (c.P.1 n)) hsd ts hdn n0 (by omega) (by rw [czn]; omega) (by rw [czn, xlg, ylg]; omega)
    obtain ⟨c2c, hc2c⟩ : ∃ x, x = cRsz c2b s n (z n - z (c.P.1 n)) := ⟨_, rfl⟩
    have gc := HcRsz c2b s n (z n - z (c.P.1 n))
    rw [← hc2c] at gc e182
    clear hc2c
    obtain ⟨wcc, wvn, wvx, wkd, wro, whe, wvs, why, wla, wtl, wdp, wpa, wK, war, wcn, wlg, wP, wck, wcz, wl1, wf1, wnv, wpu, wst, wfk, wfv, wE, wN, wrO, wrP, wrT, wrQ⟩ := gc
    have e180b := c180 L xs hw tN c2c (s := t) (x := n) htd tt hdn
    have g3' := HcRoot c2c t n
    refine fin (cRoot c2c t n) (z n - z (c.P.1 n)) (by omega) (by rw [if_neg lt]) ?_ ?_ ?_ (fun b b0 => ?_) ?_ ?_ ?_ ?_ ?_ ?_
    · rw [k_177_19]
      simp only [Hcl, gd_t, decide_true, Bool.and_self, HQ, HZ, t4, HF4, Rn d hdn n0, lg_cmp_ge]
      rw [if_pos (i64_le lt), k_177_66]
      simp only [Hcl, gd_t, decide_true, Bool.and_self, HQ, HZ, t4, HF4, Rn d hdn n0, dS hw hsd, ts, cc_6_51_7, e180, bV_s]
      rw [cl_P10 B hw c2 hdn n0, ← hc2b, k_177_81]
      simp only [Hcl, gd_t, decide_true, Bool.and_self, HQ, HZ, t4, HF4, Rn d hdn n0, tt, ts, HF7, Rs d hsd, rot, cc_6_83_0, e47, bI_s, dS hw hsd, czn]
      rw [show nI (z n) - nI (z (c.P.1 n)) = nI (z n - z (c.P.1 n)) from pk_sub (by omega)]
      simp only [Hcl, gd_t, decide_true, Bool.and_self, HQ, HZ, ts, tt, cc_6_40_7, e182, bV_s, dS hw htd, cc_6_51_7, e180b]
    all_goals obtain ⟨jcc, jvn, jvx, jkd, jro, jhe, jvs, jhy, jla, jtl, jdp, jpa, jK, jar, jcn, jlg, jP, jck, jcz, jl1, jf1, jnv, jpu, jst, jfk, jfv, jE, jN, jrO, jrP, jrT, jrQ⟩ := g3'
    · rw [jP, if_neg n0, if_neg lt]
      show c2c.P.1 = _
      rw [wP, xP]
      show u1 c2.P.1 n 0 = _
      rw [P21]
    · rw [jP, if_neg n0, if_neg lt]
      show c2c.P.2.1 = _
      rw [wP, xP]; exact P22
    · rw [jP, if_neg n0]
      show u1 c2c.P.2.2 n 0 b = _
      rw [wP, xP, hea', her']
      by_cases g : b = n
      · rw [if_pos (Or.inr g), g, u1_s]
      · rw [u1_o _ _ g]
        show c2.P.2.2 b = _
        rw [P23 b b0]
        by_cases g2 : b = c.P.1 n
        · rw [if_pos g2, if_pos (Or.inl g2)]
        · rw [if_neg g2, if_neg (fun h => h.elim g2 g)]
    · rw [jro, wro, xro, yro, hea', her']
    · rw [jcz, wcz, xcz, ycz]
    · rw [jlg, wlg, xlg, ylg, czn]
    · rw [jhe, whe, xhe, yhe]
    · rw [jvs, wvs, xvs, yvs]
    · exact ⟨jcc.trans (wcc.trans (xcc.trans ycc)), jvn.trans (wvn.trans (xvn.trans yvn)), jvx.trans (wvx.trans (xvx.trans yvx)), jkd.trans (wkd.trans (xkd.trans ykd)), jhy.trans (why.trans (xhy.trans yhy)), jla.trans (wla.trans (xla.trans yla)), jtl.trans (wtl.trans (xtl.trans ytl)), jdp.trans (wdp.trans (xdp.trans ydp)), jpa.trans (wpa.trans (xpa.trans ypa)), jK.trans (wK.trans (xK.trans yK)), jar.trans (war.trans (xar.trans yar)), jcn.trans (wcn.trans (xcn.trans ycn)), jck.trans (wck.trans (xck.trans yck)), jl1.trans (wl1.trans (xl1.trans yl1)), jf1.trans (wf1.trans (xf1.trans yf1)), jnv.trans (wnv.trans (xnv.trans ynv)), jpu.trans (wpu.trans (xpu.trans ypu)), jst.trans (wst.trans (xst.trans yst)), jfk.trans (wfk.trans (xfk.trans yfk)), jfv.trans (wfv.trans (xfv.trans yfv)), jE.trans (wE.trans (xE.trans yE)), jN.trans (wN.trans (xN.trans yN)), jrO.trans (wrO.trans (xrO.trans yrO)), jrP.trans (wrP.trans (xrP.trans yrP)), jrT.trans (wrT.trans (xrT.trans yrT)), jrQ.trans (wrQ.trans (xrQ.trans yrQ))⟩
end C177
