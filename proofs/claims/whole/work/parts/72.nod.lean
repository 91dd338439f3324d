-- node, nodeKey
section Nod
variable (L : Nat) (xs : Nat → Int32)
theorem Hbw (b : AH) (n : Nat) (e : Int32) : tg (bWk b n e) (nn b + 1) = 9 ∧ fR (bWk b n e) 35 (nn b + 1) = n ∧ fI (bWk b n e) 36 (nn b + 1) = e := by
  obtain ⟨h1, h2, h3, -⟩ := Hwk (mk b 9 0 2) (nn b + 1) n e
  refine ⟨?_, h1, h2⟩
  show tg (wkb (mk b 9 0 2) (nn b + 1) n e) (nn b + 1) = 9
  rw [h3]
  exact if_pos rfl
/-- what node answers of one node -/
def ndA (P : PT) (z : Nat → Nat) (V : Nat → List Nat) (hd' : Int32) (k : Nat) (p : Nat × Nat) : Int32 :=
  if k = 0 then nI p.2 else if k = 1 then nI (z p.1) else if k = 2 then (if P.1 p.1 = 0 then 0 else 1) + (if P.2.1 p.1 = 0 then 0 else 2) else if k = 3 then nI (V p.1).length else hd'
theorem ndA0 (P : PT) (z : Nat → Nat) (V : Nat → List Nat) (x : Int32) (p : Nat × Nat) : ndA P z V x 0 p = nI p.2 := rfl
theorem ndA1 (P : PT) (z : Nat → Nat) (V : Nat → List Nat) (x : Int32) (p : Nat × Nat) : ndA P z V x 1 p = nI (z p.1) := rfl
theorem ndA2 (P : PT) (z : Nat → Nat) (V : Nat → List Nat) (x : Int32) (p : Nat × Nat) : ndA P z V x 2 p = (if P.1 p.1 = 0 then 0 else 1) + (if P.2.1 p.1 = 0 then 0 else 2) := rfl
theorem ndA3 (P : PT) (z : Nat → Nat) (V : Nat → List Nat) (x : Int32) (p : Nat × Nat) : ndA P z V x 3 p = nI (V p.1).length := rfl
theorem ndA4 (P : PT) (z : Nat → Nat) (V : Nat → List Nat) (x : Int32) (p : Nat × Nat) : ndA P z V x 4 p = x := rfl
theorem q_node_m {B : AH} {m : MS} {c : CS} {d : DS} {T z : Nat → Nat} {V R : Nat → List Nat} {FN FI : List Nat} {ow : Nat → Nat} (hj : JJ m c d B T z V R FN FI ow) {s : Nat} (hs : s < m.K) (hk3 : m.kd s ≤ 3) {k : Nat} (hk : k ≤ 4) (i : Int32) :
    ∀ h, MB h → ∃ q, XM L xs 110 [.ref 8, .int (nI s), .int i, .int (nI k)] (ml h m) = some (ml h (m.sW q), some (.int (if i < 0 then -1 else match (pdF 20003 c.P (c.ro s) 0)[i.toInt.toNat]? with | none => -1 | some p => ndA c.P z V (m.it (m.fV p.1)).toInt32 k p))) := by
  intro h hh
  obtain ⟨jb, js, jt, jr, jp, jd, jv, ji, jf, jw, jh, jz, jl⟩ := id hj
  obtain ⟨h1, h2, h3, h4, h5, h6⟩ := hj.kin hs
  obtain ⟨b1, b2, b3, b4⟩ := id hh
  have hK := hj.K
  have hs40 : s < 40 := by omega
  have hs31 : s < 2 ^ 31 := by omega
  have c4 : (4 : Int32) = nI 4 := by decide +kernel
  have er := ((jr s hs).1 hk3).1
  have eW := pd_cg jt.1 (fun a ha => ⟨(jp.2 a ha).1, (jp.2 a ha).2.1⟩) 20003 (c.ro s) 0 (hj.rz hs)
  obtain ⟨q, l1, l2, l3, l4⟩ := ly L xs hh m hj.mw jt.2.1 (r := m.rt s) (by rw [er]; exact hj.rz hs)
  rw [er] at l4
  rw [er, eW] at l1 l2 l3
  refine ⟨q, ?_⟩
  rw [en_110, k_110_0]
  simp only [Hml, b1, b2, b3, b4, HF10, gd_t, decide_true, Bool.and_self, HQ, HZ, cc_9_175_10, m_63_t L xs hh m hs hK.1, bI_s, show ¬ (1 : Int32) = 0 from by decide, if_false]
  rw [k_110_8, if_neg (nI_pos (by omega)), k_110_12, c4, if_pos ((nI_iff (by omega) (by decide)).1.mpr hk), k_110_19]
  simp only [Hml, b1, b2, b3, b4, HF10, gd_t, decide_true, Bool.and_self, HQ, HZ, cc_9_113_10, m_62 L xs hh m hs40 h5, bI_s, show ¬ 4 ≤ m.kd s by omega, decide_false, bI1, if_true, if_false, Bool.false_eq_true]
  rw [k_110_30]
  simp only [Hml, b1, b2, b3, b4, HF10, gd_t, decide_true, Bool.and_self, HQ, HZ, inb_nI hs40 (by decide), nI_clamp hs31, er, cc_9_109_10, l4, bV_s]
  by_cases i0 : i < 0
  · rw [if_pos i0, if_pos i0, k_110_52]
  · obtain ⟨j, j1, rfl⟩ := nn_of i0
    rw [if_neg i0, if_neg i0, k_110_44, nI_toInt j1, Int.toNat_natCast]
    simp only [Hml, b1, b2, b3, b4, HF10, gd_t, decide_true, Bool.and_self, HQ, HZ, SWq, l1.1]
    cases hp : (pdF 20003 c.P (c.ro s) 0)[j]? with
    | none =>
      have hlen := List.getElem?_eq_none_iff.mp hp
      rw [if_neg (nI_nlt hlen j1), k_110_52]
    | some p =>
      have hlt := (List.getElem?_eq_some_iff.mp hp).1
      have hpm : p ∈ pdF 20003 c.P (c.ro s) 0 := List.mem_of_getElem? hp
      have hl2 := l1.2.1
      obtain ⟨g1, g2, g3, g4, g5⟩ := l1.2.2.2 p hpm
      have tp := l3 p hpm
      have pc := jp.2 _ tp
      rw [if_pos (nI_lt hlt (by omega)), k_110_54]
      simp only [Hml, b1, b2, b3, b4, HF10, gd_t, decide_true, Bool.and_self, HQ, HZ, SWq, inb_nI (show j < 20002 by omega) (by decide), nI_clamp j1, l1.2.2.1 j p hp]
      have : k = 0 ∨ k = 1 ∨ k = 2 ∨ k = 3 ∨ k = 4 := by omega
      rcases this with rfl | rfl | rfl | rfl | rfl
      · rw [show swp 63 86 0 3 #[29, 37, 45, 79] (nI 0) = 92 from by decide +kernel, k_110_92]
        simp only [Hml, b1, b2, b3, b4, HF10, gd_t, decide_true, Bool.and_self, HQ, HZ, SWq, inb_en g3 g4 (by decide), cl_en g3 (show p.1 < 2 ^ 31 by omega), g1, ndA0]
      · rw [show swp 63 86 0 3 #[29, 37, 45, 79] (nI 1) = 100 from by decide +kernel, k_110_100]
        simp only [Hml, b1, b2, b3, b4, HF10, gd_t, decide_true, Bool.and_self, HQ, HZ, SWq, inb_en g3 g4 (by decide), cl_en g3 (show p.1 < 2 ^ 31 by omega), g2, ndA1]
      · rw [show swp 63 86 0 3 #[29, 37, 45, 79] (nI 2) = 108 from by decide +kernel, k_110_108]
        have bp := jp.1 p.1
        simp only [Hml, b1, b2, b3, b4, HF10, gd_t, decide_true, Bool.and_self, HQ, HZ, SWq, inb_en g3 g4 (by decide), cl_en g3 (show p.1 < 2 ^ 31 by omega), show p.1 - 1 + 1 = p.1 from by omega, pc.1, en_m1 (show c.P.1 p.1 < 2 ^ 31 by rw [← pc.1]; omega)]
        have tl : ∀ (x : Int32), X L xs 110 124 [.ref 8, .int (nI s), .int (nI j), .int (nI 2), .int (en p.1)] [.int x] (ml h (m.sW q)) = some (ml h (m.sW q), some (.int (x + (if c.P.2.1 p.1 = 0 then 0 else 2)))) := by
          intro x
          rw [k_110_124]
          simp only [Hml, b1, b2, b3, b4, HF10, gd_t, decide_true, Bool.and_self, HQ, HZ, SWq, inb_en g3 g4 (by decide), cl_en g3 (show p.1 < 2 ^ 31 by omega), show p.1 - 1 + 1 = p.1 from by omega, pc.2.1, en_m1 (show c.P.2.1 p.1 < 2 ^ 31 by rw [← pc.2.1]; omega)]
          by_cases r0 : c.P.2.1 p.1 = 0
          · rw [if_neg (fun q => q r0), if_pos r0, k_110_135, k_110_140]
          · rw [if_pos r0, if_neg r0, k_110_139, k_110_140]
        rw [ndA2]
        by_cases q0 : c.P.1 p.1 = 0
        · rw [if_neg (fun q => q q0), if_pos q0, k_110_119, tl]
        · rw [if_pos q0, if_neg q0, k_110_123, tl]
      · rw [show swp 63 86 0 3 #[29, 37, 45, 79] (nI 3) = 142 from by decide +kernel, k_110_142]
        have v := jv _ tp
        have e57 := m_57 L xs hh (m.sW q) g3 g4 (l := V p.1) v.2.1 (fun a ha => by
          have := (ji.2.2.2.2.2.1 a (by rw [(v.2.2.2.2.2.2.2 a ha).1]; exact jt.1.n0 tp)).2
          have := ji.2.2.2.2.1
          omega)
        simp only [Hml, b1, b2, b3, b4, HF10, gd_t, decide_true, Bool.and_self, HQ, HZ, cc_9_166_10, e57, bI_s, ndA3]
      · rw [show swp 63 86 0 3 #[29, 37, 45, 79] (nI 4) = 149 from by decide +kernel, k_110_149]
        have v := jv _ tp
        have hf : 1 ≤ m.fV p.1 ∧ m.fV p.1 ≤ 20002 := by
          cases hV : V p.1 with
          | nil => exact absurd hV v.1
          | cons x t =>
            have v2 := v.2.1
            rw [hV] at v2
            have hx := v.2.2.2.2.2.2.2 x (by rw [hV]; exact List.mem_cons_self ..)
            have := ji.2.2.2.2.2.1 x (by rw [hx.1]; exact jt.1.n0 tp)
            have := ji.2.2.2.2.1
            rw [v2.1]
            omega
        have e58 := m_58 L xs hh (m.sW q) g3 g4 hf.1 hf.2
        simp only [Hml, b1, b2, b3, b4, HF10, gd_t, decide_true, Bool.and_self, HQ, HZ, cc_9_188_10, e58, bI_s, ndA4, SWq]
theorem q_node_c {B : AH} {m : MS} {c : CS} {d : DS} {T z : Nat → Nat} {V R : Nat → List Nat} {FN FI : List Nat} {ow : Nat → Nat} (e0 : ml B m = B) (hj : JJ m c d B T z V R FN FI ow) {s : Nat} (hs : s < m.K) (hk3 : m.kd s ≤ 3) {k : Nat} (hk : k ≤ 4) (i : Int32) :
    ∃ B', Ext B B' ∧ nn B' ≤ nn B + 10 ∧ sl B' ≤ sl B + 200 ∧ ml B' m = B' ∧ XM L xs 20 [.ref 1, .int (nI s), .int i, .int (nI k)] (cl B d c) = some (cl B' d c, some (.int (if i < 0 then -1 else match (pdF 20003 c.P (c.ro s) 0)[i.toInt.toNat]? with | none => -1 | some p => ndA c.P z V (m.it (m.fV p.1)).toInt32 k p))) := by
  obtain ⟨jb, js, jt, jr, jp, jd, jv, ji, jf, jw, jh, jz, jl⟩ := id hj
  obtain ⟨p1, p2, p3, p4⟩ := id jb.1
  obtain ⟨h1, h2, h3, h4, h5, h6⟩ := hj.kin hs
  have hw := jb.2.2.2.2.2
  have c4 : (4 : Int32) = nI 4 := by decide +kernel
  have f13 : hasF (tg B (d.sa (s + 1))) 13 = true := by rw [h6]; exact (tgS_f h5).2.1
  obtain ⟨e, hc, he⟩ := c46 L xs hw jb.2.2.1 jb.2.2.2.1 c jt.1 jt.2.1 hj.hD (hj.rz hs) (fun q => ((jr s hs).2.2.1 q).2) i
  have ins5 : ins 5 (tg B (d.sa (s + 1))) = some 0 := by
    rw [h6]
    rcases tgS_all h5 with ⟨q, g⟩ | ⟨q, g⟩ | ⟨q, g⟩ | ⟨q, g⟩
    · rw [g]; rfl
    · rw [g]; rfl
    · rw [g]; rfl
    · omega
  have pre : XM L xs 20 [.ref 1, .int (nI s), .int i, .int (nI k)] (cl B d c) = X L xs 20 34 [.ref 1, .int (nI s), .int i, .int (nI k), .ref (d.sa (s + 1)), .null, .null] [] (cl B d c) := by
    rw [en_20, k_20_0]
    simp only [Hcl, p1, p2, p3, p4, HF1, HF2, gd_t, decide_true, Bool.and_self, HQ, HZ, cc_0_30_1, hj.c25 L xs hs, bR_s, h3, if_false]
    rw [k_20_12, if_neg (nI_pos (by omega)), k_20_16, c4, if_pos ((nI_iff (by omega) (by decide)).1.mpr hk), k_20_23, if_neg h3]
    simp only [Hcl, gd_t, decide_true, Bool.and_self, HQ, HZ, ins5, or_true, true_or, show ¬ (some 0 : Option Nat) = some 1 from by decide, if_true, if_false]
  rw [pre, k_20_34]
  simp only [Hcl, gd_t, decide_true, Bool.and_self, HQ, HZ, f13, Rs d h2, cc_0_212_0, hc, bR_s]
  by_cases i0 : i < 0
  · obtain ⟨x1, x2, x3⟩ := bWk_ext B 0 e
    obtain ⟨y1, y2, y3⟩ := Hbw B 0 e
    refine ⟨bWk B 0 e, x1, by omega, by omega, by rw [bWk_ml B m _ _ jb.2.2.1.1, e0], ?_⟩
    simp only [i0, if_true, hw.1.1]
    simp only [Hcl, gd_t, decide_true, Bool.and_self, HQ, HZ, y1, HF9, y2, if_true, k_20_57]
  · obtain ⟨j, j1, rfl⟩ := nn_of i0
    simp only [i0, if_false]
    rw [nI_toInt j1, Int.toNat_natCast]
    simp only [i0, not_false_eq_true, nI_toInt j1, Int.toNat_natCast, forall_const] at he
    rw [List.getD_eq_getElem?_getD]
    cases hp : (pdF 20003 c.P (c.ro s) 0)[j]? with
    | none =>
      obtain ⟨x1, x2, x3⟩ := bWk_ext B 0 e
      obtain ⟨y1, y2, y3⟩ := Hbw B 0 e
      refine ⟨bWk B 0 e, x1, by omega, by omega, by rw [bWk_ml B m _ _ jb.2.2.1.1, e0], ?_⟩
      simp only [Option.getD_none, hw.1.1]
      simp only [Hcl, gd_t, decide_true, Bool.and_self, HQ, HZ, y1, HF9, y2, if_true, k_20_57]
    | some p =>
      have hpm : p ∈ pdF 20003 c.P (c.ro s) 0 := List.mem_of_getElem? hp
      have hz := hj.zle (hj.rz hs)
      have tp : T p.1 ≠ 0 := by
        obtain ⟨q1, q2, -⟩ := pd_up jt.1 20003 (c.ro s) 0 (hj.rz hs) (by omega) p.1 (List.mem_map_of_mem hpm)
        rw [q2]; exact (hj.rz hs).resolve_left q1
      have n0 := jt.1.n0 tp
      have hdp := hj.hD _ (Or.inr tp)
      have e2 := he p hp
      have ph0' : ¬ d.ph p.1 = 0 := fun q => n0 ((ph0 hw hdp).mp q)
      obtain ⟨x1, x2, x3⟩ := bWk_ext B (d.ph p.1) e
      obtain ⟨y1, y2, y3⟩ := Hbw B (d.ph p.1) e
      have jb' := x1.JB jb
      have tn : tg (bWk B (d.ph p.1) e) (d.ph p.1) = 4 := jb'.2.2.2.1 _ (by rw [hdp]; exact n0)
      have mB : ml (bWk B (d.ph p.1) e) m = bWk B (d.ph p.1) e := by rw [bWk_ml B m _ _ jb.2.2.1.1, e0]
      simp only [Option.getD_some]
      simp only [Hcl, gd_t, decide_true, Bool.and_self, HQ, HZ, y1, HF9, y2, ph0', if_false, k_20_59]
      have : k = 0 ∨ k = 1 ∨ k = 2 ∨ k = 3 ∨ k = 4 := by omega
      rcases this with rfl | rfl | rfl | rfl | rfl
      · refine ⟨bWk B (d.ph p.1) e, x1, by omega, by omega, mB, ?_⟩
        rw [show swp 60 78 0 3 #[32, 38, 44, 72] (nI 0) = 92 from by decide +kernel, k_20_92]
        simp only [Hcl, gd_t, decide_true, Bool.and_self, HQ, HZ, y1, HF9, y3, ndA0]
        rw [e2]
      · obtain ⟨pp, ee, h48⟩ := c48 L xs hw jb'.2.2.1 jb'.2.2.2.1 c jt.1 jt.2.1 hj.hD tp (hj.zle (Or.inr tp))
        obtain ⟨x1', x2', x3'⟩ := bWk_ext (bWk B (d.ph p.1) e) pp ee
        refine ⟨bWk (bWk B (d.ph p.1) e) pp ee, x1.tr x1', by omega, by omega, by rw [bWk_ml _ m _ _ jb'.2.2.1.1, mB], ?_⟩
        rw [show swp 60 78 0 3 #[32, 38, 44, 72] (nI 1) = 98 from by decide +kernel, k_20_98]
        simp only [Hcl, gd_t, decide_true, Bool.and_self, HQ, HZ, cc_0_224_0, h48, bI_s, ndA1]
      · refine ⟨bWk B (d.ph p.1) e, x1, by omega, by omega, mB, ?_⟩
        have dl := hj.hD _ (jt.1.lzl tp)
        have dr := hj.hD _ (jt.1.lzr tp)
        rw [show swp 60 78 0 3 #[32, 38, 44, 72] (nI 2) = 104 from by decide +kernel, k_20_104]
        simp only [Hcl, gd_t, decide_true, Bool.and_self, HQ, HZ, tn, HF4, Rn d hdp n0, ph0 hw dl]
        have tl : ∀ (x : Int32), X L xs 20 117 [.ref 1, .int (nI s), .int (nI j), .int (nI 2), .ref (d.sa (s + 1)), .ref (nn B + 1), .ref (d.ph p.1)] [.int x] (cl (bWk B (d.ph p.1) e) d c) = some (cl (bWk B (d.ph p.1) e) d c, some (.int (x + (if c.P.2.1 p.1 = 0 then 0 else 2)))) := by
          intro x
          rw [k_20_117]
          simp only [Hcl, gd_t, decide_true, Bool.and_self, HQ, HZ, tn, HF4, Rn d hdp n0, ph0 hw dr]
          by_cases r0 : c.P.2.1 p.1 = 0
          · rw [if_pos r0, if_pos r0, k_20_125, k_20_130]
          · rw [if_neg r0, if_neg r0, k_20_129, k_20_130]
        rw [ndA2]
        by_cases q0 : c.P.1 p.1 = 0
        · rw [if_pos q0, if_pos q0, k_20_112, tl]
        · rw [if_neg q0, if_neg q0, k_20_116, tl]
      · refine ⟨bWk B (d.ph p.1) e, x1, by omega, by omega, mB, ?_⟩
        have v := jv _ tp
        rw [show swp 60 78 0 3 #[32, 38, 44, 72] (nI 3) = 132 from by decide +kernel, k_20_132]
        simp only [Hcl, gd_t, decide_true, Bool.and_self, HQ, HZ, tn, HF4, Rn d hdp n0, v.2.2.2.2.2.1, ndA3]
      · refine ⟨bWk B (d.ph p.1) e, x1, by omega, by omega, mB, ?_⟩
        have v := jv _ tp
        have hx : ∃ x, x ∈ V p.1 ∧ m.fV p.1 = x ∧ x ≠ 0 := by
          cases hV : V p.1 with
          | nil => exact absurd hV v.1
          | cons x t =>
            have v2 := v.2.1
            rw [hV] at v2
            exact ⟨x, List.mem_cons_self .., v2.1, v2.2.1⟩
        obtain ⟨x, hx1, hx2, hx3⟩ := hx
        have vx := v.2.2.2.2.2.2.2 x hx1
        have hd1 : d.iid (d.vh (c.f1 p.1)) = c.f1 p.1 := by
          rw [v.2.2.1, hx2]
          exact (jd.2 x hx3).mpr ⟨by rw [vx.1]; exact n0, by rw [vx.1]; exact jt.2.1.2 _ tp⟩
        have e133 := c133 L xs hw jb'.2.2.2.1 jb'.2.2.2.2.1 c hdp n0 hd1
        rw [v.2.2.1, hx2, if_neg hx3, vx.2.1] at e133
        rw [show swp 60 78 0 3 #[32, 38, 44, 72] (nI 4) = 138 from by decide +kernel, k_20_138]
        simp only [Hcl, gd_t, decide_true, Bool.and_self, HQ, HZ, dN hw hdp n0, tn, cc_0_233_4, e133, bI_s, hx2, ndA4]
theorem q_node {i : Nat} {B : AH} {m : MS} {c : CS} {d : DS} (hI : Inv i B m c d) (a j w : Int32) : Ans L xs i B m c d 20 110 [.int a, .int j, .int w] := by
  obtain ⟨e, ja, jq, T, z, V, R, FN, FI, ow, hj⟩ := id hI
  obtain ⟨p1, p2, p3, p4⟩ := id hj.1.1
  have c4 : (4 : Int32) = nI 4 := by decide +kernel
  rcases st_of hj.K.1 a with ha | ⟨s, hs, rfl⟩
  · refine Ans.of L xs (B' := B) (c' := c) (d' := d) (r := .int (-1)) ?_ e hj.1.2.1 (fun h hh => ⟨m, ?_, hI.stay⟩)
    · rw [en_20, k_20_0]
      simp only [Hcl, p1, p2, p3, p4, HF1, HF2, gd_t, decide_true, Bool.and_self, HQ, HZ, cc_0_30_1, hj.c25f L xs ha, bR_s, if_true, k_20_21]
    · obtain ⟨b1, b2, b3, b4⟩ := id hh
      rw [en_110, k_110_0]
      simp only [Hml, b1, b2, b3, b4, HF10, gd_t, decide_true, Bool.and_self, HQ, HZ, cc_9_175_10, m_63_f L xs hh m ha, bI_s, if_true, k_110_17]
  · obtain ⟨h1, h2, h3, h4, h5, h6⟩ := hj.kin hs
    rcases sw_c w (show 4 < 2 ^ 30 by decide) with ⟨k, hk, rfl⟩ | g
    · by_cases hk3 : m.kd s ≤ 3
      · obtain ⟨B', x1, x2, x3, x4, hc⟩ := q_node_c L xs e hj hs hk3 hk j
        refine Ans.of L xs (B' := B') (c' := c) (d' := d) hc x4 (x1.MB hj.1.2.2.1.1 hj.1.2.1) (fun h hh => ?_)
        obtain ⟨q, hq⟩ := q_node_m L xs hj hs hk3 hk j h hh
        exact ⟨m.sW q, hq, hI.sWx x1 x2 x3 q⟩
      · have t6 := (hj.tgs hs).2.2.2 (by omega)
        refine Ans.of L xs (B' := B) (c' := c) (d' := d) (r := .int (-2)) ?_ e hj.1.2.1 (fun h hh => ⟨m, ?_, hI.stay⟩)
        · rw [en_20, k_20_0]
          simp only [Hcl, p1, p2, p3, p4, HF1, HF2, gd_t, decide_true, Bool.and_self, HQ, HZ, cc_0_30_1, hj.c25 L xs hs, bR_s, h3, if_false]
          rw [k_20_12, if_neg (nI_pos (by omega)), k_20_16, c4, if_pos ((nI_iff (by omega) (by decide)).1.mpr hk), k_20_23, if_neg h3]
          simp only [Hcl, gd_t, decide_true, Bool.and_self, HQ, HZ, t6, show ins 5 6 = some 1 from rfl, or_true, true_or, if_true, show ¬ (1 : Int32) = 0 from by decide, if_false, k_20_31]
        · obtain ⟨b1, b2, b3, b4⟩ := id hh
          have hK := hj.K
          rw [en_110, k_110_0]
          simp only [Hml, b1, b2, b3, b4, HF10, gd_t, decide_true, Bool.and_self, HQ, HZ, cc_9_175_10, m_63_t L xs hh m hs hK.1, bI_s, show ¬ (1 : Int32) = 0 from by decide, if_false]
          rw [k_110_8, if_neg (nI_pos (by omega)), k_110_12, c4, if_pos ((nI_iff (by omega) (by decide)).1.mpr hk), k_110_19]
          simp only [Hml, b1, b2, b3, b4, HF10, gd_t, decide_true, Bool.and_self, HQ, HZ, cc_9_113_10, m_62 L xs hh m (show s < 40 by omega) h5, bI_s, show 4 ≤ m.kd s by omega, decide_true, bI1, if_true, show ¬ (1 : Int32) = 0 from by decide, if_false, k_110_27]
    · have g : w.toInt < 0 ∨ (4 : Int) < w.toInt := g
      have w4 : ¬ w < 0 → ¬ w ≤ (4 : Int32) := fun w0 q => by
        have q2 := Int32.le_iff_toInt_le.mp q
        rw [show (4 : Int32).toInt = 4 from rfl] at q2
        rcases g with r | r
        · exact w0 (Int32.lt_iff_toInt_lt.mpr (by rw [Int32.toInt_zero]; exact r))
        · omega
      refine Ans.of L xs (B' := B) (c' := c) (d' := d) (r := .int (-1)) ?_ e hj.1.2.1 (fun h hh => ⟨m, ?_, hI.stay⟩)
      · rw [en_20, k_20_0]
        simp only [Hcl, p1, p2, p3, p4, HF1, HF2, gd_t, decide_true, Bool.and_self, HQ, HZ, cc_0_30_1, hj.c25 L xs hs, bR_s, h3, if_false]
        rw [k_20_12]
        by_cases w0 : w < 0
        · rw [if_pos w0, k_20_21]
        · rw [if_neg w0, k_20_16, if_neg (w4 w0), k_20_21]
      · obtain ⟨b1, b2, b3, b4⟩ := id hh
        rw [en_110, k_110_0]
        simp only [Hml, b1, b2, b3, b4, HF10, gd_t, decide_true, Bool.and_self, HQ, HZ, cc_9_175_10, m_63_t L xs hh m hs hj.K.1, bI_s, show ¬ (1 : Int32) = 0 from by decide, if_false]
        rw [k_110_8]
        by_cases w0 : w < 0
        · rw [if_pos w0, k_110_17]
        · rw [if_neg w0, k_110_12, if_neg (w4 w0), k_110_17]
theorem q_nodeKey {i : Nat} {B : AH} {m : MS} {c : CS} {d : DS} (hI : Inv i B m c d) (a j : Int32) : Ans L xs i B m c d 21 111 [.int a, .int j] := by
  obtain ⟨e0, ja, jq, T, z, V, R, FN, FI, ow, hj⟩ := id hI
  obtain ⟨jb, js, jt, jr, jp, jd, jv, ji, jf, jw, jh, jz, jl⟩ := id hj
  obtain ⟨p1, p2, p3, p4⟩ := id jb.1
  have hw := jb.2.2.2.2.2
  rcases st_of hj.K.1 a with ha | ⟨s, hs, rfl⟩
  · refine Ans.of L xs (B' := B) (c' := c) (d' := d) (r := .long 0) ?_ e0 hj.1.2.1 (fun h hh => ⟨m, ?_, hI.stay⟩)
    · rw [en_21, k_21_0]
      simp only [Hcl, p1, p2, p3, p4, HF1, HF2, gd_t, decide_true, Bool.and_self, HQ, HZ, cc_0_30_1, hj.c25f L xs ha, bR_s, if_true, k_21_10]
    · obtain ⟨b1, b2, b3, b4⟩ := id hh
      rw [en_111, k_111_0]
      simp only [Hml, b1, b2, b3, b4, HF10, gd_t, decide_true, Bool.and_self, HQ, HZ, cc_9_175_10, m_63_f L xs hh m ha, bI_s, if_true, k_111_16]
  · obtain ⟨h1, h2, h3, h4, h5, h6⟩ := hj.kin hs
    have hK := hj.K
    have hs40 : s < 40 := by omega
    have hs31 : s < 2 ^ 31 := by omega
    have f13 : hasF (tg B (d.sa (s + 1))) 13 = true := by rw [h6]; exact (tgS_f h5).2.1
    obtain ⟨e, hc, -⟩ := c46 L xs hw jb.2.2.1 jb.2.2.2.1 c jt.1 jt.2.1 hj.hD (hj.rz hs) (fun q => ((jr s hs).2.2.1 q).2) j
    generalize hn : (if j < 0 then 0 else ((pdF 20003 c.P (c.ro s) 0).getD j.toInt.toNat (0, 0)).1) = n at hc
    have hz := hj.zle (hj.rz hs)
    have tn : LZ T n := by
      rw [← hn]
      split
      · exact Or.inl rfl
      · rw [List.getD_eq_getElem?_getD]
        cases hp : (pdF 20003 c.P (c.ro s) 0)[j.toInt.toNat]? with
        | none => exact Or.inl rfl
        | some p =>
          refine Or.inr ?_
          obtain ⟨q1, q2, -⟩ := pd_up jt.1 20003 (c.ro s) 0 (hj.rz hs) (by omega) p.1 (List.mem_map_of_mem (List.mem_of_getElem? hp))
          show T p.1 ≠ 0
          rw [q2]; exact (hj.rz hs).resolve_left q1
    have hdn := hj.hD n tn
    obtain ⟨x1, x2, x3⟩ := bWk_ext B (d.ph n) e
    obtain ⟨y1, y2, y3⟩ := Hbw B (d.ph n) e
    have jb' := x1.JB jb
    refine Ans.of L xs (B' := bWk B (d.ph n) e) (c' := c) (d' := d) (r := .long (if n = 0 then 0 else c.ck n)) ?_ (by rw [bWk_ml B m _ _ jb.2.2.1.1, e0]) (x1.MB hj.1.2.2.1.1 hj.1.2.1) (fun h hh => ?_)
    · rw [en_21, k_21_0]
      simp only [Hcl, p1, p2, p3, p4, HF1, HF2, gd_t, decide_true, Bool.and_self, HQ, HZ, cc_0_30_1, hj.c25 L xs hs, bR_s, h3, if_false]
      rw [k_21_12]
      simp only [Hcl, gd_t, decide_true, Bool.and_self, HQ, HZ, f13, Rs d h2, cc_0_212_0, hc, bR_s, y1, HF9, y2, ph0 hw hdn]
      by_cases n0 : n = 0
      · rw [if_pos n0, if_pos n0, k_21_30, k_21_39]
      · have tg4 : tg (bWk B (d.ph n) e) (d.ph n) = 4 := jb'.2.2.2.1 _ (by rw [hdn]; exact n0)
        rw [if_neg n0, if_neg n0, k_21_34]
        simp only [Hcl, gd_t, decide_true, Bool.and_self, HQ, HZ, tg4, HF4, Rn d hdn n0, k_21_39]
    · obtain ⟨b1, b2, b3, b4⟩ := id hh
      by_cases hk3 : m.kd s ≤ 3
      · have er := ((jr s hs).1 hk3).1
        have eW := pd_cg jt.1 (fun a ha => ⟨(jp.2 a ha).1, (jp.2 a ha).2.1⟩) 20003 (c.ro s) 0 (hj.rz hs)
        obtain ⟨q, l1, l2, l3, l4⟩ := ly L xs hh m hj.mw jt.2.1 (r := m.rt s) (by rw [er]; exact hj.rz hs)
        rw [er] at l4
        rw [er, eW] at l1 l2 l3
        refine ⟨m.sW q, ?_, hI.sWx x1 (by omega) (by omega) q⟩
        rw [en_111, k_111_0]
        simp only [Hml, b1, b2, b3, b4, HF10, gd_t, decide_true, Bool.and_self, HQ, HZ, cc_9_175_10, m_63_t L xs hh m hs hK.1, bI_s, show ¬ (1 : Int32) = 0 from by decide, if_false]
        rw [k_111_8]
        simp only [Hml, b1, b2, b3, b4, HF10, gd_t, decide_true, Bool.and_self, HQ, HZ, cc_9_113_10, m_62 L xs hh m hs40 h5, bI_s, show ¬ 4 ≤ m.kd s by omega, decide_false, bI1, if_true, if_false, Bool.false_eq_true]
        rw [k_111_18]
        simp only [Hml, b1, b2, b3, b4, HF10, gd_t, decide_true, Bool.and_self, HQ, HZ, inb_nI hs40 (by decide), nI_clamp hs31, er, cc_9_109_10, l4, bV_s]
        by_cases j0 : j < 0
        · rw [if_pos j0] at hn
          rw [if_pos j0, k_111_54, k_111_55, if_pos hn.symm]
        · obtain ⟨k, k1, rfl⟩ := nn_of j0
          rw [if_neg j0, nI_toInt k1, Int.toNat_natCast, List.getD_eq_getElem?_getD] at hn
          rw [if_neg j0, k_111_32]
          simp only [Hml, b1, b2, b3, b4, HF10, gd_t, decide_true, Bool.and_self, HQ, HZ, SWq, l1.1]
          cases hp : (pdF 20003 c.P (c.ro s) 0)[k]? with
          | none =>
            rw [hp] at hn
            have hlen := List.getElem?_eq_none_iff.mp hp
            have hl2 := l1.2.1
            have hn : 0 = n := hn
            rw [if_pos ((nI_iff (by omega) k1).1.mpr hlen), k_111_54, k_111_55, if_pos hn.symm]
          | some p =>
            rw [hp] at hn
            have hn : p.1 = n := hn
            have hlt := (List.getElem?_eq_some_iff.mp hp).1
            have hpm : p ∈ pdF 20003 c.P (c.ro s) 0 := List.mem_of_getElem? hp
            have hl2 := l1.2.1
            obtain ⟨g1, g2, g3, g4, g5⟩ := l1.2.2.2 p hpm
            have tp := l3 p hpm
            have pc := jp.2 _ tp
            rw [if_neg (fun q => by have := (nI_iff (by omega) k1).1.mp q; omega), k_111_40, ← hn, if_neg (by omega)]
            simp only [Hml, b1, b2, b3, b4, HF10, gd_t, decide_true, Bool.and_self, HQ, HZ, SWq, inb_nI (show k < 20002 by omega) (by decide), nI_clamp k1, l1.2.2.1 k p hp, inb_en g3 g4 (by decide), cl_en g3 (show p.1 < 2 ^ 31 by omega), show p.1 - 1 + 1 = p.1 from by omega, pc.2.2.1, k_111_55]
      · have r0 := (hj.row hs (by omega)).2.2.2.2.2.2
        have n0 : n = 0 := by
          rw [← hn, r0, pdF_0]
          split <;> rfl
        refine ⟨m, ?_, by
          obtain ⟨e, ja, jq, T, z, V, R, FN, FI, ow, hj⟩ := id hI
          exact Inv.mk' ja (JQ.le jq (by omega) (by omega)) (hj.ext x1)⟩
        rw [en_111, k_111_0]
        simp only [Hml, b1, b2, b3, b4, HF10, gd_t, decide_true, Bool.and_self, HQ, HZ, cc_9_175_10, m_63_t L xs hh m hs hK.1, bI_s, show ¬ (1 : Int32) = 0 from by decide, if_false]
        rw [k_111_8]
        simp only [Hml, b1, b2, b3, b4, HF10, gd_t, decide_true, Bool.and_self, HQ, HZ, cc_9_113_10, m_62 L xs hh m hs40 h5, bI_s, show 4 ≤ m.kd s by omega, decide_true, bI1, if_true, show ¬ (1 : Int32) = 0 from by decide, if_false, k_111_16, n0]
end Nod
