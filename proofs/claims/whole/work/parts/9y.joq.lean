-- join, both sides
section Joq
variable (L : Nat) (xs : Nat → Int32)
set_option maxHeartbeats 8000000 in
theorem join_go {i : Nat} {B : AH} {m : MS} {c : CS} {d : DS} (hI : Inv i B m c d) {s t : Nat} (hs : s < m.K) (ht : t < m.K) (ks : m.kd s = 1) (kt : m.kd t = 1) (st : s ≠ t) (hN : m.N < 20000)
    (cpre : XM L xs 10 [.ref 1, .int (nI s), .int (nI t)] (cl B d c) = X L xs 10 60 [.ref 1, .int (nI s), .int (nI t), .ref (d.sa (s + 1)), .ref (d.sa (t + 1)), .null, .null] [] (cl B d c))
    (mpre : ∀ h, MB h → ∃ l4 l5, XM L xs 88 [.ref 8, .int (nI s), .int (nI t)] (ml h m) = X L xs 88 129 [.ref 8, .int (nI s), .int (nI t), .int 0, l4, l5] [] (ml h m)) : Ans L xs i B m c d 10 88 [.int (nI s), .int (nI t)] := by
  obtain ⟨e0, ja, jq, T, z, V, R, FN, FI, ow, hj⟩ := id hI
  obtain ⟨jb, js, jt, jr, jp, jd, jv, ji, jf, jw, jh, jz, jl⟩ := id hj
  obtain ⟨h1, h2, h3, h4, h5, h6⟩ := hj.kin hs
  obtain ⟨t1, t2, t3, t4, t5, t6⟩ := hj.kin ht
  obtain ⟨p1, p2, p3, p4⟩ := id jb.1
  obtain ⟨ja1, ⟨f1, f2, f3, f4, f5⟩, ⟨f6, f7, f8, f9, f10, f11⟩, tq, htq⟩ := id ja
  have hw := jb.2.2.2.2.2
  have hK := hj.K
  have hs40 : s < 40 := by omega
  have ht40 : t < 40 := by omega
  have κ0 : s + 1 ≠ 0 := Nat.succ_ne_zero s
  have τ0 : t + 1 ≠ 0 := Nat.succ_ne_zero t
  have kne : s + 1 ≠ t + 1 := by omega
  have ts : tg B (d.sa (s + 1)) = 7 := by rw [h6, ks]; rfl
  have tt : tg B (d.sa (t + 1)) = 7 := by rw [t6, kt]; rfl
  have ers : m.rt s = c.ro s := ((jr s hs).1 (by omega)).1
  have ert : m.rt t = c.ro t := ((jr t ht).1 (by omega)).1
  obtain ⟨c4, m4, z', q, δ, e176, mref, ⟨x1, x2, x3, x4, x5, x6, x7⟩, ⟨y1, y2, y3⟩, ⟨w1, w2, w3, w4, w5, w6⟩, us, vs⟩ := join_mid L xs hj hs ht ks kt st
  obtain ⟨ucc, uvn, uvx, ukd, uhe, uvs, uhy, utl, udp, upa, uK, uar, ucn, uck, ul1, uf1, unv, upu, ufk, ufv, uE, uN, urO, urP, urT, urQ⟩ := us
  obtain ⟨vkd, vpl, vnu, vcs, vit, vnx, vK, vE, vnm, vfn, vim, vfi, vse, vky, vlV, vfV, vpu, vst, vfk, vfv, vN, vrO, vrP, vrT, vrQ⟩ := vs
  have hT' : TN (fun x => if T x = t + 1 then s + 1 else T x) := ⟨by show (if T 0 = t + 1 then s + 1 else T 0) = 0; rw [if_neg (by rw [jt.2.1.1]; exact Ne.symm τ0)]; exact jt.2.1.1, fun b hb => jt.2.1.2 b (fun g => by
    have hb : (if T b = t + 1 then s + 1 else T b) ≠ 0 := hb
    rw [if_neg (by rw [g]; exact Ne.symm τ0)] at hb
    exact hb g)⟩
  have iff' : ∀ b, (if T b = t + 1 then s + 1 else T b) = s + 1 ↔ (T b = s + 1 ∨ T b = t + 1) := fun b => by
    by_cases g : T b = t + 1
    · rw [if_pos g]; exact ⟨fun _ => Or.inr g, fun _ => rfl⟩
    · rw [if_neg g]; exact ⟨fun h => Or.inl h, fun h => h.resolve_right g⟩
  have noT : ∀ b, (if T b = t + 1 then s + 1 else T b) ≠ t + 1 := fun b => by
    by_cases g : T b = t + 1
    · rw [if_pos g]; exact kne
    · rw [if_neg g]; exact g
  -- the class's states
  obtain ⟨c5, hc5⟩ : ∃ x, x = cEm (cJn c4 s t) t := ⟨_, rfl⟩
  have g5 := HcJE c4 s t
  rw [← hc5] at g5 e176
  clear hc5
  obtain ⟨g5cc, g5vn, g5vx, g5kd, g5ro, g5he, g5vs, g5hy, g5la, g5tl, g5dp, g5pa, g5K, g5ar, g5cn, g5lg, g5P, g5ck, g5cz, g5l1, g5f1, g5nv, g5pu, g5st, g5fk, g5fv, g5E, g5N, g5rO, g5rP, g5rT, g5rQ⟩ := g5
  have c38' := c38 L xs (b := B) hw c5 h2 t2 (by rw [ts]; rfl) (by rw [tt]; rfl)
  obtain ⟨c6, hc6⟩ : ∃ x, x = c5.spu (u1 (u1 c5.pu s (c5.pu s + c5.pu t)) t 0) := ⟨_, rfl⟩
  have g6 := HcSpu c5 (u1 (u1 c5.pu s (c5.pu s + c5.pu t)) t 0)
  rw [← hc6] at g6 c38'
  clear hc6
  obtain ⟨g6cc, g6vn, g6vx, g6kd, g6ro, g6he, g6vs, g6hy, g6la, g6tl, g6dp, g6pa, g6K, g6ar, g6cn, g6lg, g6P, g6ck, g6cz, g6l1, g6f1, g6nv, g6pu, g6st, g6fk, g6fv, g6E, g6N, g6rO, g6rP, g6rT, g6rQ⟩ := g6
  -- the reference's
  obtain ⟨m5, hm5⟩ : ∃ x, x = (m4.srt (u1 m4.rt t 0)).spu (u1 (u1 m4.pu s (m4.pu s + m4.pu t)) t 0) := ⟨_, rfl⟩
  have gm := HmJ5 m4 (u1 m4.rt t 0) (u1 (u1 m4.pu s (m4.pu s + m4.pu t)) t 0)
  rw [← hm5] at gm
  obtain ⟨gmkd, gmrt, gmpl, gmnu, gmcs, gmit, gmnx, gmK, gmE, gmnm, gmfn, gmim, gmfi, gmse, gmP, gmky, gmlV, gmfV, gmpu, gmst, gmsp, gmfk, gmfv, gmN, gmrO, gmrP, gmrT, gmrQ⟩ := gm
  have ehe : c6.he s = c.he s + c.he t := by rw [g6he, g5he, u1_o _ _ st, u1_s, uhe]
  have P6 : c6.P = c4.P := by rw [g6P, g5P]
  have hj2 : JJ m5 c6 d B (fun x => if T x = t + 1 then s + 1 else T x) z' V R FN FI ow := by
    refine move_tr hj hs ht ks kt (fun a => ?_) (fun r r1 r2 a => ?_) ⟨gmkd.trans vkd, gmpl.trans vpl, gmnu.trans vnu, gmcs.trans vcs, gmit.trans vit, gmnx.trans vnx, gmK.trans vK, gmE.trans vE, gmnm.trans vnm, gmfn.trans vfn, gmim.trans vim, gmfi.trans vfi, gmse.trans vse, gmky.trans vky, gmlV.trans vlV, gmfV.trans vfV⟩ ⟨g6cc.trans (g5cc.trans ucc), g6vn.trans (g5vn.trans uvn), g6vx.trans (g5vx.trans uvx), g6kd.trans (g5kd.trans ukd), g6tl.trans (g5tl.trans utl), g6dp.trans (g5dp.trans udp), g6pa.trans (g5pa.trans upa), g6K.trans (g5K.trans uK), g6ar.trans (g5ar.trans uar), g6cn.trans (g5cn.trans ucn), g6ck.trans (g5ck.trans uck), g6l1.trans (g5l1.trans ul1), g6f1.trans (g5f1.trans uf1), g6nv.trans (g5nv.trans unv)⟩ (fun r r1 r2 => ?_) (fun r hr => ?_) (by rw [P6]; exact w1) (by rw [gmP]; exact y3) (fun a ha => ?_) (fun b b0 hb1 hb2 => ?_) (fun b tb hb1 hb2 => ?_) (fun r hr => ?_)
    · show (if T a = t + 1 then s + 1 else T a) = 0 ↔ _
      by_cases g : T a = t + 1
      · rw [if_pos g, g]; exact ⟨fun h => absurd h κ0, fun h => absurd h τ0⟩
      · rw [if_neg g]
    · show (if T a = t + 1 then s + 1 else T a) = r + 1 ↔ _
      by_cases g : T a = t + 1
      · rw [if_pos g, g]; exact ⟨fun h => by omega, fun h => by omega⟩
      · rw [if_neg g]
    · rw [gmrt, y1, g6ro, g5ro, x1, g6he, g5he, g6vs, g5vs, g6lg, g5lg, g6hy, g5hy, g6la, g5la, x2]
      rw [u1_o _ _ r2, u1_o _ _ r2, u1_o _ _ r2, u1_o _ _ r2, u1_o _ _ r2, u1_o _ _ r1, u1_o _ _ r1, u1_o _ _ r1, u1_o _ _ r1, u1_o _ _ r1, uhe, uvs, uhy, x7 r r1]
      exact ⟨rfl, rfl, rfl, rfl, rfl, rfl, rfl⟩
    · rw [g6la, g5la, x2]
      rcases hr with g | g
      · rw [g]; exact jl.1 s hs (by omega)
      · rw [g]; exact jl.1 t ht (by omega)
    · have ha : (if T a = t + 1 then s + 1 else T a) = s + 1 ∨ (if T a = t + 1 then s + 1 else T a) = t + 1 := ha
      have ha := (iff' a).mp (ha.resolve_right (noT a))
      rw [gmP, P6, g6cz, g5cz]
      exact w2 a ha
    · rw [gmP]; exact w3 b b0 hb1 hb2
    · rw [P6, g6cz, g5cz]; exact w4 b tb hb1 hb2
    · rcases hr with g | g
      · rw [g, gmrt, y1, g6ro, g5ro, x1, u1_o _ _ st, u1_o _ _ st, u1_s, u1_s, P6, ehe]
        refine ⟨rfl, fun q0 => ⟨(iff' q).mpr (w5 q0).1, (w5 q0).2⟩, fun a ha hu => w6 a ((iff' a).mp ha) hu, ?_, ?_, ?_⟩
        · rw [Sm_two jt.2.1 κ0 τ0 kne κ0 hT' iff', (jz.1 s hs).1 (by omega), (jz.1 t ht).1 (by omega)]
        · rw [g6vs, g5vs, u1_o _ _ st, u1_s, uvs, Sm_two jt.2.1 κ0 τ0 kne κ0 hT' iff', (jz.1 s hs).2.1 (by omega), (jz.1 t ht).2.1 (by omega)]
        · rw [g6lg, g5lg, u1_o _ _ st, u1_s, x7 t (Ne.symm st)]
          exact x6
      · rw [g, gmrt, g6ro, g5ro, u1_s, u1_s, g6he, g5he, g6vs, g5vs, g6lg, g5lg, u1_s, u1_s, u1_s, Sm_none noT, Sm_none noT, Sm_none noT]
        exact ⟨rfl, fun h => absurd rfl h, fun a ha _ => absurd ha (noT a), rfl, rfl, rfl⟩
  have hM2 : JM m5 c6 s := by
    refine ⟨fun r hr => ⟨?_, fun g => ?_⟩, ⟨?_, by rw [gmsp, y2]; omega⟩, ⟨?_, ?_, ?_, ?_, ?_⟩, ⟨?_, ?_, ?_, ?_, ?_, ?_⟩, tq, fun i hi => ?_⟩
    · rw [gmK, vK] at hr
      rw [g6pu, g5pu, upu, gmpu, vpu]
      by_cases g : r = t
      · rw [g, u1_s, u1_s]; rfl
      · rw [u1_o _ _ g, u1_o _ _ g]
        by_cases g2 : r = s
        · rw [g2, u1_s, u1_s, i64_add, (ja1 s hs).1, (ja1 t ht).1]
        · rw [u1_o _ _ g2, u1_o _ _ g2]
          exact (ja1 r hr).1
    · rw [gmK, vK] at hr
      rw [g6st, g5st, x4 r g, gmst, vst]
      exact (ja1 r hr).2
    · rw [g6st, g5st, x3, gmst, vst, gmsp, y2, (ja1 s hs).2]
    · rw [g6fk, g5fk, ufk, gmfk, vfk]; exact f1
    · rw [g6fv, g5fv, ufv, gmfv, vfv]; exact f2
    · rw [g6E, g5E, uE, gmE, vE]; exact f3
    · rw [gmse, vse, gmN, vN]; omega
    · rw [g6cn, g5cn, ucn, gmN, vN]; omega
    · rw [g6N, g5N, uN, gmN, vN]; exact f6
    · rw [gmN, vN]; exact hN
    · rw [g6rO, g5rO, urO, gmrO, vrO]; exact f8
    · rw [g6rP, g5rP, urP, gmrP, vrP]; exact f9
    · rw [g6rT, g5rT, urT, gmrT, vrT]; exact f10
    · rw [g6rQ, g5rQ, urQ, gmrQ, vrQ]; exact f11
    · rw [gmN, vN] at hi
      rw [gmrT, vrT]
      exact htq i hi
  have hK2 : m5.K = m.K := gmK.trans vK
  have hs2 : s < m5.K := by rw [hK2]; exact hs
  have hst2 : c.st s = (m5.st s).toInt32 := by rw [gmst, vst]; exact (ja1 s hs).2
  have hkd2 : m5.kd = m.kd := gmkd.trans vkd
  have hrw : rwP m5 = rwP m := by
    unfold rwP
    rw [hK2, hkd2, gmnu, vnu, gmpl, vpl]
  have bds : c.he s ≤ 20000 ∧ c.he t ≤ 20000 := by
    have y1 := hj.zle (hj.rz hs)
    have y2 := hj.zle (hj.rz ht)
    rw [hj.he hs (by omega)] at y1
    rw [hj.he ht (by omega)] at y2
    exact ⟨y1, y2⟩
  obtain ⟨pr, hpr⟩ : ∃ pr, pr = prT (c.he s + c.he t) := ⟨_, rfl⟩
  have hcl := (cls L xs hj2 hM2 hs2 pr (c.st s) hst2).1
  have s41 := s_41 L xs (cl B d c) (c.he s + c.he t) (by omega)
  rw [← hpr] at s41
  refine Ans.of L xs (B' := B) (c' := cCls c6 s (nI s) pr (nI m5.sp) (nI (potV B c6 s))) (d' := d) (r := .int (nI (c.he s + c.he t))) ?_ e0 jb.2.1 (fun h hh => ?_)
  · rw [cpre, k_10_60]
    simp only [Hcl, p1, p2, p3, p4, HF1, HF2, gd_t, decide_true, Bool.and_self, HQ, HZ, HF7, ts, tt, Rs d h2, Rs d t2, nI_add, cc_0_121_0, s41, bI_s, dS hw h2, cc_0_124_7, e176, bV_s, cc_0_128_0, c38', cc_0_72_1, hcl]
    rw [show (cCls c6 s (nI s) pr (nI m5.sp) (nI (potV B c6 s))).he s = c.he s + c.he t from ehe]
  · obtain ⟨b1, b2, b3, b4⟩ := id hh
    obtain ⟨l4, l5, hpre⟩ := mpre h hh
    obtain ⟨q1, e64⟩ := m_64 L xs hh (m.ssp 0) (up := c.P.2.2) (T := T) (z := z) hj.mw jt.2.1 hs40 (show LZ T (m.rt s) by rw [ers]; exact hj.rz hs)
    have e64 : XM L xs 64 [.ref 8, .int (nI s)] (ml h (m.ssp 0)) = some (ml h ((m.ssp 0).sW q1), some (.int (nI (c.he s)))) := by
      rw [← hj.he hs (by omega), ← ers]; exact e64
    obtain ⟨q2, e65⟩ := m_64 L xs hh ((m.ssp 0).sW q1) (up := c.P.2.2) (T := T) (z := z) hj.mw jt.2.1 ht40 (show LZ T (m.rt t) by rw [ert]; exact hj.rz ht)
    have e65 : XM L xs 64 [.ref 8, .int (nI t)] (ml h ((m.ssp 0).sW q1)) = some (ml h ((m.ssp 0).sW q2), some (.int (nI (c.he t)))) := by
      rw [← hj.he ht (by omega), ← ert]; exact e65
    have e71 := s_71 L xs (ml h ((m.ssp 0).sW q2)) 8 (c.he s + c.he t) (by omega)
    rw [← hpr] at e71
    obtain ⟨q4, e66⟩ := clsq L xs hj2 hM2 hs2 pr (c.st s) hst2 q2 h hh
    obtain ⟨q5, e67⟩ := m_64 L xs hh ((mAct m5 s pr (nI (potV B c6 s))).sW q4) (up := c6.P.2.2) (T := fun x => if T x = t + 1 then s + 1 else T x) (z := z') hj2.mw hT' hs40 (show LZ _ (m5.rt s) by rw [((hj2.2.2.2.1 s hs2).1 (by rw [hkd2]; omega)).1]; exact hj2.rz hs2)
    have e67 : XM L xs 64 [.ref 8, .int (nI s)] (ml h ((mAct m5 s pr (nI (potV B c6 s))).sW q4)) = some (ml h ((mAct m5 s pr (nI (potV B c6 s))).sW q5), some (.int (nI (c.he s + c.he t)))) := by
      rw [← ehe, ← hj2.he hs2 (by rw [hkd2]; omega), ← ((hj2.2.2.2.1 s hs2).1 (by rw [hkd2]; omega)).1]
      exact e67
    refine ⟨(mAct m5 s pr (nI (potV B c6 s))).sW q5, ?_, (Inv.act hj2 hM2 hs2 _ _ q5 jq (by rw [gmN, vN]) (by omega) (by rw [hrw]; omega)).up⟩
    obtain ⟨l5', hm⟩ := mref h hh q2 pr l5
    rw [hpre, k_88_129]
    simp only [Hml, b1, b2, b3, b4, HF10, gd_t, decide_true, Bool.and_self, HQ, HZ]
    rw [← nI_0, ml_sp, nI_0, k_88_134]
    have er2 : ((m.ssp 0).sW q2).rt s = m.rt s := rfl
    have brs : m.rt s < 2 ^ 31 := by
      rw [ers]
      rcases hj.rz hs with g | g
      · omega
      · have := jt.2.1.2 _ g; omega
    simp only [Hml, b1, b2, b3, b4, HF10, gd_t, decide_true, Bool.and_self, HQ, HZ, cc_9_150_10, e64, e65, bI_s, nI_add, cc_9_153_10, e71, inb_nI hs40 (by decide), nI_clamp (show s < 2 ^ 31 by omega), er2, en_m1 brs]
    rw [hm, k_88_214]
    simp only [Hml, b1, b2, b3, b4, HF10, gd_t, decide_true, Bool.and_self, HQ, HZ, inb_nI ht40 (by decide), nI_clamp (show t < 2 ^ 31 by omega), ml_rt0]
    rw [k_88_221]
    simp only [Hml, b1, b2, b3, b4, HF10, gd_t, decide_true, Bool.and_self, HQ, HZ, inb_nI hs40 (by decide), nI_clamp (show s < 2 ^ 31 by omega), inb_nI ht40 (by decide), nI_clamp (show t < 2 ^ 31 by omega), ml_pu]
    rw [k_88_236]
    simp only [Hml, b1, b2, b3, b4, HF10, gd_t, decide_true, Bool.and_self, HQ, HZ, inb_nI ht40 (by decide), nI_clamp (show t < 2 ^ 31 by omega), ml_pu]
    rw [k_88_243]
    have eM : ∀ X : MS, X = m5.sW q2 → (gd (decide ((8 : Nat) ≠ 0) && decide (catS [] ≤ 8)) (bV (cfD (XM L xs) 9 172 (tg (ml h X) 8) [.ref 8, .int (nI s), .int pr] (ml h X)) fun h1 => gd (decide ((8 : Nat) ≠ 0) && decide (catS [] ≤ 8)) (bI (cfD (XM L xs) 9 150 (tg h1 8) [.ref 8, .int (nI s)] h1) fun r2 h2 => some (h2, some (.int r2))))) = some (ml h ((mAct m5 s pr (nI (potV B c6 s))).sW q5), some (.int (nI (c.he s + c.he t)))) := by
      intro X hX
      rw [hX]
      simp only [Hml, b1, b2, b3, b4, HF10, gd_t, decide_true, Bool.and_self, HQ, HZ, cc_9_172_10, e66, bV_s, cc_9_150_10, e67, bI_s]
    refine eM _ ?_
    rw [hm5]
    rfl
set_option maxHeartbeats 4000000 in
theorem q_join {i : Nat} {B : AH} {m : MS} {c : CS} {d : DS} (hI : Inv i B m c d) (a b : Int32) : Ans L xs i B m c d 10 88 [.int a, .int b] := by
  obtain ⟨e0, ja, jq, T, z, V, R, FN, FI, ow, hj⟩ := id hI
  obtain ⟨jb, js, jt, jr, jp, jd, jv, ji, jf, jw, jh, jz, jl⟩ := id hj
  obtain ⟨p1, p2, p3, p4⟩ := id jb.1
  obtain ⟨n1, n2, n3, n4, n5, n6⟩ := ja.2.2.1
  have hw := jb.2.2.2.2.2
  have hK := hj.K
  have c20 : (20000 : Int32) = nI 20000 := by decide +kernel
  have c1 := hj.c31 L xs a b
  have g27 : ∀ b, ∃ y, XM L xs 27 [.ref 1, .int b] (cl B d c) = some (cl B d c, some (.ref y)) := fun b => by
    rcases st_of hK.1 b with hb | ⟨t, ht, rfl⟩
    · exact ⟨_, hj.c27f L xs hb⟩
    · exact ⟨_, hj.c27 L xs ht⟩
  -- refused
  have bad : ∀ r, XM L xs 31 [.ref 1, .int a, .int b] (cl B d c) = some (cl B d c, some (.int r)) → (∀ y1 y2, XM L xs 27 [.ref 1, .int a] (cl B d c) = some (cl B d c, some (.ref y1)) → XM L xs 27 [.ref 1, .int b] (cl B d c) = some (cl B d c, some (.ref y2)) → y1 = 0 ∨ y2 = 0 ∨ y1 = y2) → r ≠ 0 → (∀ h, MB h → XM L xs 87 [.ref 8, .int a, .int b] (ml h m) = some (ml h m, some (.int r))) → Ans L xs i B m c d 10 88 [.int a, .int b] := by
    intro r h31 hyy r0 h87
    obtain ⟨y1, hy1⟩ := g27 a
    obtain ⟨y2, hy2⟩ := g27 b
    refine Ans.of L xs (B' := B) (c' := c) (d' := d) (r := .int r) ?_ e0 jb.2.1 (fun h hh => ⟨m, ?_, hI.stay⟩)
    · have fin : ∀ l3 l4 : Nat, X L xs 10 28 [.ref 1, .int a, .int b, .ref l3, .ref l4, .null, .null] [] (cl B d c) = some (cl B d c, some (.int r)) := fun l3 l4 => by
        rw [k_10_28]
        simp only [Hcl, p1, p2, p3, p4, HF1, HF2, gd_t, decide_true, Bool.and_self, HQ, HZ, cc_0_110_1, h31, bI_s]
      rw [en_10, k_10_0]
      simp only [Hcl, p1, p2, p3, p4, HF1, HF2, gd_t, decide_true, Bool.and_self, HQ, HZ, cc_0_91_1, hy1, hy2, bR_s]
      by_cases g1 : y1 = 0
      · rw [if_pos g1, fin]
      · rw [if_neg g1, k_10_17]
        by_cases g2 : y2 = 0
        · rw [if_pos g2, fin]
        · rw [if_neg g2, k_10_22, if_neg (fun q => q (((hyy y1 y2 hy1 hy2).resolve_left g1).resolve_left g2)), fin]
    · obtain ⟨b1, b2, b3, b4⟩ := id hh
      rw [en_88, k_88_0]
      simp only [Hml, b1, b2, b3, b4, HF10, gd_t, decide_true, Bool.and_self, HQ, HZ, cc_9_226_10, h87 h hh, bI_s, r0, if_false, k_88_11]
  by_cases inv : (a < 0 ∨ nI m.K ≤ a) ∨ (b < 0 ∨ nI m.K ≤ b)
  · refine bad (-1) (c1.1 inv) (fun y1 y2 g1 g2 => ?_) (by decide) (fun h hh => m_87_f L xs hh m hK.1 inv)
    rcases inv with q | q
    · rw [hj.c27f L xs q] at g1
      exact Or.inl (Value.ref.inj (Option.some.inj (Prod.mk.inj (Option.some.inj g1)).2)).symm
    · rw [hj.c27f L xs q] at g2
      exact Or.inr (Or.inl (Value.ref.inj (Option.some.inj (Prod.mk.inj (Option.some.inj g2)).2)).symm)
  · rcases st_of hK.1 a with ha | ⟨s, hs, ea⟩
    · exact absurd (Or.inl ha) inv
    · rcases st_of hK.1 b with hb | ⟨t, ht, eb⟩
      · exact absurd (Or.inr hb) inv
      · obtain ⟨h1, h2, h3, h4, h5, h6⟩ := hj.kin hs
        obtain ⟨t1, t2, t3, t4, t5, t6⟩ := hj.kin ht
        have h31 := c1.2 s t hs ht ea eb
        subst ea eb
        by_cases g : m.kd s = 1 ∧ m.kd t = 1 ∧ s ≠ t
        · obtain ⟨ks, kt, st⟩ := g
          have hs40 : s < 40 := by omega
          have ht40 : t < 40 := by omega
          have ts : tg B (d.sa (s + 1)) = 7 := by rw [h6, ks]; rfl
          have tt : tg B (d.sa (t + 1)) = 7 := by rw [t6, kt]; rfl
          have ers : m.rt s = c.ro s := ((jr s hs).1 (by omega)).1
          have ert : m.rt t = c.ro t := ((jr t ht).1 (by omega)).1
          have ne : d.sa (s + 1) ≠ d.sa (t + 1) := fun q => by
            have := h2
            rw [q, t2] at this
            omega
          have e175 := c175 L xs (b := B) hw jb.2.2.2.1 h2 ts t2 tt c jt.1 hj.hD (F := 20003) (fun x hx => by have := hj.zle hx; omega) (hj.rz hs) (hj.rz ht)
          have cpre : XM L xs 10 [.ref 1, .int (nI s), .int (nI t)] (cl B d c) = if (c.ro s = 0 ∨ c.ro t = 0 ∨ c.ck (lR c.P 20003 (c.ro s)).1 < c.ck (lL c.P 20003 (c.ro t))) then X L xs 10 47 [.ref 1, .int (nI s), .int (nI t), .ref (d.sa (s + 1)), .ref (d.sa (t + 1)), .null, .null] [] (cl B d c) else some (cl B d c, some (.int (-4))) := by
            rw [en_10, k_10_0]
            simp only [Hcl, p1, p2, p3, p4, HF1, HF2, gd_t, decide_true, Bool.and_self, HQ, HZ, cc_0_91_1, hj.c27 L xs hs, hj.c27 L xs ht, ks, kt, if_true, bR_s, h3, if_false]
            rw [k_10_17, if_neg t3, k_10_22, if_pos ne, k_10_35]
            simp only [Hcl, p1, p2, p3, p4, HF1, HF2, gd_t, decide_true, Bool.and_self, HQ, HZ, ts, dS hw h2, cc_0_114_7, e175, bI_s]
            by_cases q : c.ro s = 0 ∨ c.ro t = 0 ∨ c.ck (lR c.P 20003 (c.ro s)).1 < c.ck (lL c.P 20003 (c.ro t))
            · rw [decide_eq_true q, if_pos (show ¬ bI1 true = 0 from by decide), if_pos q]
            · rw [decide_eq_false q, if_neg (show ¬ ¬ bI1 false = 0 from by decide), if_neg q, k_10_44]
          have h87 := fun h (hh : MB h) => m_87 L xs hh m hK.1 hs ht h5 t5
          have mpre : ∀ h, MB h → XM L xs 88 [.ref 8, .int (nI s), .int (nI t)] (ml h m) = X L xs 88 13 [.ref 8, .int (nI s), .int (nI t), .int 0, .null, .null] [] (ml h m) := fun h hh => by
            obtain ⟨b1, b2, b3, b4⟩ := id hh
            have e := h87 h hh
            rw [if_pos ⟨ks, kt, st⟩] at e
            rw [en_88, k_88_0]
            simp only [Hml, b1, b2, b3, b4, HF10, gd_t, decide_true, Bool.and_self, HQ, HZ, cc_9_226_10, e, bI_s, if_true]
          have cmpE : (m.rt s = 0 ∨ m.rt t = 0 ∨ m.ky (lR m.P 20003 (m.rt s)).1 < m.ky (lL m.P 20003 (m.rt t))) ↔ (c.ro s = 0 ∨ c.ro t = 0 ∨ c.ck (lR c.P 20003 (c.ro s)).1 < c.ck (lL c.P 20003 (c.ro t))) := by
            rw [ers, ert]
            by_cases q1 : c.ro s = 0
            · exact ⟨fun _ => Or.inl q1, fun _ => Or.inl q1⟩
            · by_cases q2 : c.ro t = 0
              · exact ⟨fun _ => Or.inr (Or.inl q2), fun _ => Or.inr (Or.inl q2)⟩
              · have w1 := (hj.rz hs).resolve_left q1
                have w2 := (hj.rz ht).resolve_left q2
                rw [lR_cg (P := m.P) (Q := c.P) jt.1 (fun b hb => ⟨(jp.2 b hb).1, (jp.2 b hb).2.1⟩) 20003 _ w1, lL_cg (P := m.P) (Q := c.P) jt.1 (fun b hb => ⟨(jp.2 b hb).1, (jp.2 b hb).2.1⟩) 20003 _ w2]
                rw [(jp.2 _ (by rw [lR_mem jt.1 20003 _ w1]; exact w1)).2.2.1, (jp.2 _ (by rw [lL_mem jt.1 20003 _ w2]; exact w2)).2.2.1]
          have m88 := fun h (hh : MB h) => m_88c L xs hh m hs40 ht40 (up := c.P.2.2) (T := T) (z := z) hj.mw jt.2.1 (by rw [ers]; exact hj.rz hs) (by rw [ert]; exact hj.rz ht)
          by_cases q : c.ro s = 0 ∨ c.ro t = 0 ∨ c.ck (lR c.P 20003 (c.ro s)).1 < c.ck (lL c.P 20003 (c.ro t))
          · have e116 := c116 L xs jb.1 d c (by omega)
            rw [n1] at e116
            rw [if_pos q, k_10_47] at cpre
            simp only [Hcl, p1, p2, p3, p4, HF1, HF2, gd_t, decide_true, Bool.and_self, HQ, HZ, cc_0_51_2, e116, bI_s] at cpre
            by_cases g2 : m.N = 20000
            · rw [decide_eq_true g2, if_neg (show ¬ bI1 true = 0 from by decide), k_10_57] at cpre
              refine Ans.of L xs (B' := B) (c' := c) (d' := d) (r := .int (-5)) cpre e0 jb.2.1 (fun h hh => ⟨m, ?_, hI.stay⟩)
              obtain ⟨b1, b2, b3, b4⟩ := id hh
              obtain ⟨l4, l5, e⟩ := (m88 h hh).1 (cmpE.mpr q)
              rw [mpre h hh, e, k_88_116]
              simp only [Hml, b1, b2, b3, b4, HF10, gd_t, decide_true, Bool.and_self, HQ, HZ, g2, c20, not_true, if_false, k_88_126]
            · rw [decide_eq_false g2, if_pos (show bI1 false = 0 from by decide)] at cpre
              refine join_go L xs hI hs ht ks kt st (by omega) cpre (fun h hh => ?_)
              obtain ⟨b1, b2, b3, b4⟩ := id hh
              obtain ⟨l4, l5, e⟩ := (m88 h hh).1 (cmpE.mpr q)
              refine ⟨l4, l5, ?_⟩
              rw [mpre h hh, e, k_88_116]
              simp only [Hml, b1, b2, b3, b4, HF10, gd_t, decide_true, Bool.and_self, HQ, HZ]
              rw [c20, if_pos (by rw [nI_eq (by omega) (by omega)]; exact g2)]
          · rw [if_neg q] at cpre
            refine Ans.of L xs (B' := B) (c' := c) (d' := d) (r := .int (-4)) cpre e0 jb.2.1 (fun h hh => ⟨m, ?_, hI.stay⟩)
            rw [mpre h hh, (m88 h hh).2 (fun w => q (cmpE.mp w))]
        · refine bad (-2) h31 (fun y1 y2 w1 w2 => ?_) (by decide) (fun h hh => by rw [m_87 L xs hh m hK.1 hs ht h5 t5, if_neg g])
          rw [hj.c27 L xs hs] at w1
          rw [hj.c27 L xs ht] at w2
          have e1 := Value.ref.inj (Option.some.inj (Prod.mk.inj (Option.some.inj w1)).2)
          have e2 := Value.ref.inj (Option.some.inj (Prod.mk.inj (Option.some.inj w2)).2)
          by_cases g1 : m.kd s = 1
          · by_cases g2 : m.kd t = 1
            · have st : s = t := Classical.byContradiction (fun q => g ⟨g1, g2, q⟩)
              refine Or.inr (Or.inr ?_)
              rw [← e1, ← e2, st]
            · rw [if_neg g2] at e2
              exact Or.inr (Or.inl e2.symm)
          · rw [if_neg g1] at e1
            exact Or.inl e1.symm
end Joq
