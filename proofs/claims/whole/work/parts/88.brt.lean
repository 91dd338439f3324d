-- bring, of trees
theorem JJ.scnE {m : MS} {c : CS} {d : DS} {B : AH} {T z : Nat → Nat} {V R : Nat → List Nat} {FN FI : List Nat} {ow : Nat → Nat} (hj : JJ m c d B T z V R FN FI ow) (a e : Nat) (h1 : ∀ x, T x ≠ 0 → c.cc x ≤ a) (h2 : ∀ x, T x ≠ 0 → 2 ≤ m.kd (T x - 1) → c.cc x < a) : JJ m ((c.scn a).sE e) d B T z V R FN FI ow := by
  obtain ⟨jb, js, jt, jr, jp, jd, jv, ji, jf, jw, jh, jz, jl⟩ := id hj
  exact ⟨jb, js.cg rfl rfl rfl rfl rfl, jt.cg rfl rfl rfl, jr.cg rfl rfl rfl rfl rfl rfl, jp.cg rfl rfl rfl rfl rfl, jd, jv.cg rfl rfl rfl rfl rfl rfl rfl rfl rfl, ji, jf, jw.cg rfl rfl rfl rfl rfl rfl rfl rfl rfl, ⟨jh.1, h1, fun x hx g => ⟨(jh.2.2.1 x hx g).1, h2 x hx g⟩, jh.2.2.2⟩, jz.cg rfl rfl rfl rfl rfl rfl rfl rfl, jl.cg rfl rfl rfl rfl rfl rfl rfl rfl⟩
theorem cLz_cnE (kd : Nat) (c : CS) (s a e : Nat) : cLz kd ((c.scn a).sE e) s = ((cLz kd c s).scn a).sE e := by
  unfold cLz
  by_cases q : kd = 1
  · rw [if_pos q, if_pos q]; rfl
  · rw [if_neg q, if_neg q]
theorem cStl_cnE (kd : Nat) (c : CS) (s n : Nat) (T : Nat → Nat) (a e : Nat) : cStl kd ((c.scn a).sE e) s n T = ((cStl kd c s n T).scn a).sE e := by
  unfold cStl
  by_cases q : kd = 1
  · rw [if_pos q, if_pos q]
    by_cases n0 : n = 0
    · rw [if_pos n0, if_pos n0]; rfl
    · rw [if_neg n0, if_neg n0]; rfl
  · rw [if_neg q, if_neg q]
section Brt
variable (L : Nat) (xs : Nat → Int32)
/-- settle's run alone -/
theorem stl_eq {m : MS} {c : CS} {d : DS} {B : AH} {T z : Nat → Nat} {V R : Nat → List Nat} {FN FI : List Nat} {ow : Nat → Nat} {s : Nat} (hj : JJ m (cLz (m.kd s) c s) d B T z V R FN FI ow) (hs : s < m.K) (hk : m.kd s ≤ 1) {n : Nat} (hn : n ≠ 0 → T n = s + 1) :
    ∀ m0, cfD (XM L xs) 11 50 (tg B (d.sa (s + 1))) [.ref (d.sa (s + 1)), .ref (d.ph n)] (cl (ml B m0) d c) = some (cl (ml B m0) d (cStl (m.kd s) c s n T), none) := by
  obtain ⟨jb, js, jt, jr, jp, jd, jv, ji, jf, jw, jh, jz, jl⟩ := id hj
  obtain ⟨h1, h2, h3, h4, h5, h6⟩ := hj.kin hs
  have hw := jb.2.2.2.2.2
  have κ0 : s + 1 ≠ 0 := Nat.succ_ne_zero s
  unfold cStl
  unfold cLz at hj jt jr jp jv jz jl h4 js
  intro m0
  by_cases q : m.kd s = 1
  · rw [if_pos q] at hj jt jr jp jv jz jl h4 js ⊢
    have t7 := (hj.tgs hs).2.1 q
    by_cases n0 : n = 0
    · subst n0
      rw [if_pos rfl, t7, cc_11_50_7, hw.1.1]
      exact c172_0 L xs (b := ml B m0) hw h2 t7 c
    · have tn := hn n0
      have tn0 : T n ≠ 0 := by rw [tn]; exact κ0
      rw [if_neg n0]
      have hWi : WF c.P (ind T (s + 1)) z := WF.ind (l := c.P.1) (r := c.P.2.1) (u := c.P.2.2) (u' := c.P.2.2) jt.1 κ0 (fun _ _ => rfl)
      have lv : ∀ a, ind T (s + 1) a ≠ 0 → T a = s + 1 := fun a ha => (ind_ne κ0 a).mp ha
      have lv0 : ∀ a, T a = s + 1 → T a ≠ 0 := fun a ha => by rw [ha]; exact κ0
      have hTi : TN (ind T (s + 1)) := ⟨by unfold ind; rw [jt.1.1, if_neg (fun g => κ0 g.symm)], fun a ha => jt.2.1.2 a (lv0 a (lv a ha))⟩
      have hlg : c.lg s = 0 + Gs (Ms (ind T (s + 1)) (s + 1)) z := by
        have e2 : Gs (Ms (ind T (s + 1)) (s + 1)) z = Sm (ind T (s + 1)) (s + 1) (fun a => Nat.log2 (z a)) := rfl
        rw [Nat.zero_add, e2, Ms_ind T κ0]
        exact (jz.1 s hs).2.2.1 q
      have cc := c172z L xs (b := ml B m0) hw jb.2.2.2.1 h2 t7 c κ0 hWi hTi (fun x hx => hj.hD x (Or.inr (lv0 x (lv x hx)))) (fun a ha => ind_eq (lv a ha)) (fun a ha => jz.2.1 a (lv0 a (lv a ha)) (by rw [lv a ha, Nat.add_sub_cancel]; omega)) hlg (n := n) (by rw [ind_eq tn]; exact κ0)
      rw [t7, cc_11_50_7]
      exact cc.2.2
  · rw [if_neg q] at hj ⊢
    have t5 := (hj.tgs hs).1 (by omega)
    rw [t5, cc_11_50_5, c142]
theorem m_67' {h : AH} (hb : MB h) (m : MS) {p c : Nat} (hp : 1 ≤ p) (hp2 : p ≤ 20002) (hc : c ≤ 20002) : XM L xs 67 [.ref 8, .int (en p), .int (en c)] (ml h m) = some (ml h (m.sP (stl m.P p c)), none) := by
  have := m_67 L xs (MB_ml hb m) m.P hp hp2 hc
  rw [pm_ml, pm_ml] at this
  exact this
theorem m_68' {h : AH} (hb : MB h) (m : MS) {p c : Nat} (hp : 1 ≤ p) (hp2 : p ≤ 20002) (hc : c ≤ 20002) : XM L xs 68 [.ref 8, .int (en p), .int (en c)] (ml h m) = some (ml h (m.sP (str m.P p c)), none) := by
  have := m_68 L xs (MB_ml hb m) m.P hp hp2 hc
  rw [pm_ml, pm_ml] at this
  exact this
/-- where a WF picture of one tree stands in the reference's rows -/
theorem JJ.wm {m : MS} {c : CS} {d : DS} {B : AH} {T z : Nat → Nat} {V R : Nat → List Nat} {FN FI : List Nat} {ow : Nat → Nat} (hj : JJ m c d B T z V R FN FI ow) {s : Nat} (hk : m.kd s ≤ 1) : WF m.P (ind T (s + 1)) z ∧ (∀ a, ind T (s + 1) a ≠ 0 → a ≤ 20002) := by
  have jt := hj.2.2.1
  have jp := hj.2.2.2.2.1
  have κ0 : s + 1 ≠ 0 := Nat.succ_ne_zero s
  have lv : ∀ a, ind T (s + 1) a ≠ 0 → T a = s + 1 := fun a ha => (ind_ne κ0 a).mp ha
  have hWi : WF c.P (ind T (s + 1)) z := WF.ind (l := c.P.1) (r := c.P.2.1) (u := c.P.2.2) (u' := c.P.2.2) jt.1 κ0 (fun _ _ => rfl)
  refine ⟨hWi.pt (fun a ha => ?_), fun a ha => jt.2.1.2 a (by rw [lv a ha]; exact κ0)⟩
  have p := jp.2 a (by rw [lv a ha]; exact κ0)
  exact ⟨p.1, p.2.1, p.2.2.2 (by rw [lv a ha, Nat.add_sub_cancel]; exact hk)⟩
/-- what is alike in all cases: settle, the closing -/
theorem brt_fin {i : Nat} {B B1 : AH} {m m1 : MS} {c c1 : CS} {d d1 : DS} {T T1 z z1 : Nat → Nat} {V R V1 : Nat → List Nat} {FN FI FN1 FI1 : List Nat} {ow ow1 : Nat → Nat} (ja : JA m c) (jq : JQ B m i) (hj : JJ m c d B T z V R FN FI ow) {s x : Nat} (hs : s < m.K) (hk : m.kd s ≤ 1) (k : Int64) (v : Int32)
    (hj1 : JJ m1 (cLz (m.kd s) ((c1.scn (c1.cn + 1)).sE (c1.E + 1)) s) d1 B1 T1 z1 V1 R FN1 FI1 ow1) (hj1' : JJ m1 (cLz (m.kd s) c1 s) d1 B1 T1 z1 V1 R FN1 FI1 ow1) (hM : JM m1 ((c1.scn (c1.cn + 1)).sE (c1.E + 1)) s) (hx : T1 x = s + 1) (hsp : m1.sp ≤ 50000) (e1 : m1.K = m.K) (e2 : m1.kd = m.kd) (e3 : m1.st = m.st) (e4 : m1.N = m.N) (e5 : rwP m1 = rwP m) (e6 : d1.sa (s + 1) = d.sa (s + 1)) (e7 : tg B1 (d.sa (s + 1)) = tg B (d.sa (s + 1))) (hn : nn B1 ≤ nn B + 4) (hsl : sl B1 ≤ sl B + 20)
    (htk : ∀ m0 (c3 : CS), cfD (XM L xs) 11 50 (tg B (d.sa (s + 1))) [.ref (d.sa (s + 1)), .ref (d1.ph x)] (cl (ml B1 m0) d1 c1) = some (cl (ml B1 m0) d1 c3, none) → XM L xs 161 [.ref (d.sa (s + 1)), .long k, .int v, .int (nI c.cn)] (cl (ml B m0) d c) = some (cl (ml B1 m0) d1 c3, some (.int (nI (c3.nv x)))))
    (hr : ∀ h, MB h → ∃ q, XM L xs 74 [.ref 8, .int (nI s), .long k, .int v] (ml h m) = gd (decide ((8 : Nat) ≠ 0) && decide (catS [] ≤ 8)) (bV (cfD (XM L xs) 9 169 (tg (ml h (m1.sW q)) 8) [.ref 8, .int (nI s), .int (en x)] (ml h (m1.sW q))) fun h3 => gd (decide ((8 : Nat) ≠ 0) && decide (catS [] ≤ 8)) (bV (cfD (XM L xs) 9 172 (tg h3 8) [.ref 8, .int (nI s), .int (prT (c.he s))] h3) fun h4 => some (h4, some (.int (nI (V1 x).length)))))) : BrgOK L xs i B m c d s k v := by
  obtain ⟨h1, h2, h3, h4, h5, h6⟩ := hj.kin hs
  have jb := hj.1
  have hw := jb.2.2.2.2.2
  have f14 : hasF (tg B (d.sa (s + 1))) 14 = true := by rw [h6]; exact (tgS_f h5).2.2.1
  have f16 : hasF (tg B (d.sa (s + 1))) 16 = true := by rw [h6]; exact (tgS_f h5).2.2.2.2
  have hs1 : s < m1.K := by rw [e1]; exact hs
  have hzr := hj.zle (hj.rz hs)
  have ehe := hj.he hs (by omega)
  rw [← e2] at hj1 hj1'
  have seq := stl_eq L xs hj1' hs1 (by rw [e2]; exact hk) (n := x) (fun _ => hx)
  obtain ⟨-, ⟨z2, s2⟩, s3, s4, s5⟩ := stl_ok L xs hj1 hs1 (by rw [e2]; exact hk) (n := x) (fun _ => hx) hM hsp
  rw [cStl_cnE] at s2 s3
  rw [e2, e6, e7] at seq
  rw [e2] at s2 s3
  generalize hc3 : cStl (m.kd s) c1 s x T1 = c3 at s2 s3 seq
  have hTr := HmTrn m1 s x
  have hsT : s < (mTrn m1 s x).K := by rw [hTr.2.2.2.2.2.2.1]; exact hs1
  have hst : c.st s = ((mTrn m1 s x).st s).toInt32 := by rw [hTr.2.2.2.2.2.2.2.2.1, e3]; exact (ja.1 s hs).2
  have ecn : c3.cn = c1.cn ∧ c3.E = c1.E ∧ c3.nv = c1.nv := by
    rw [← hc3]
    have := HcStl (m.kd s) c1 s x T1
    exact ⟨this.2.2.2.2.2.2.2, this.2.2.2.2.2.2.1, this.2.1⟩
  rw [← ecn.1, ← ecn.2.1] at s2 s3
  have T0 : T1 x ≠ 0 := by rw [hx]; exact Nat.succ_ne_zero s
  have env : c3.nv x = (V1 x).length := (s2.2.2.2.2.2.2.1 x T0).2.2.2.2.2.1
  refine ⟨B1, cCls ((c3.scn (c3.cn + 1)).sE (c3.E + 1)) s (nI s) (prT (c.he s)) (nI (mTrn m1 s x).sp) (nI (potV B1 ((c3.scn (c3.cn + 1)).sE (c3.E + 1)) s)), d1, nI (V1 x).length, fun m0 => ?_, e6, hj1.1.2.1, fun h hh => ?_⟩
  · have hcl := (cls L xs (s2.ml m0) s3 hsT (prT (c.he s)) (c.st s) hst).1
    rw [e6] at hcl
    refine c35 L xs (b := ml B m0) (b1 := ml B1 m0) (c1 := c3) (CB_ml jb.1 m0) (CB_ml hj1.1.1 m0) hw h2 f16 (price := prT (c.he s)) ?_ ?_ hcl
    · show cfD (XM L xs) 0 203 (tg B (d.sa (s + 1))) _ _ = _
      rcases hj.tgt hs hk with q | q
      · rw [q, cc_0_203_5]
        exact c159 L xs (b := ml B m0) hw h2 (Or.inl q) c (by omega)
      · rw [q, cc_0_203_7]
        exact c159 L xs (b := ml B m0) hw h2 (Or.inr q) c (by omega)
    · show cfD (XM L xs) 0 258 (tg B (d.sa (s + 1))) _ _ = _
      have tk := htk m0 c3 (seq m0)
      rw [env] at tk
      rcases hj.tgt hs hk with q | q
      · rw [q, cc_0_258_5]; exact tk
      · rw [q, cc_0_258_7]; exact tk
  · obtain ⟨b1, b2, b3, b4⟩ := id hh
    obtain ⟨q, hq⟩ := hr h hh
    have xb := hj1.2.2.1.2.1.2 x T0
    have trn := m_73 L xs hh (m1.sW q) (S := ind T1 (s + 1)) (z := z1) hj1.2.2.2.2.1.1 (show s < 40 by have := hj.K; omega) (by show m1.kd s ≤ 5; rw [e2]; exact h5) (n := x) (by omega) (fun g1 g2 => by
      have wm := hj1.wm (s := s) (by rw [e2]; exact hk)
      exact ⟨wm.1, wm.2, by rw [ind_eq hx]; exact Nat.succ_ne_zero s⟩)
    rw [mTrn_sW] at trn
    obtain ⟨q3, hq3⟩ := clsq L xs s2 s3 hsT (prT (c.he s)) (c.st s) hst q h hh
    refine ⟨(mAct (mTrn m1 s x) s (prT (c.he s)) (nI (potV B1 ((c3.scn (c3.cn + 1)).sE (c3.E + 1)) s))).sW q3, ?_, ?_, ?_, ?_⟩
    · rw [if_neg (show ¬ 4 ≤ m.kd s by omega), hq]
      simp only [Hml, b1, b2, b3, b4, HF10, gd_t, decide_true, Bool.and_self, HQ, HZ, cc_9_169_10, trn, bV_s, cc_9_172_10, hq3]
    · exact Inv.act s2 s3 hsT _ _ q3 jq (by rw [hTr.2.2.2.2.2.2.2.1, e4]) hn (by rw [rwP_trn, e5]; omega)
    · show (mTrn m1 s x).kd s = m.kd s
      rw [hTr.2.2.2.2.2.1, e2]
    · show (mTrn m1 s x).K = m.K
      rw [hTr.2.2.2.2.2.2.1, e1]
end Brt
