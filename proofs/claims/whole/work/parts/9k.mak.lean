-- make
section Mak
variable (L : Nat) (xs : Nat → Int32)
theorem ins10 {k t : Nat} (hk : k ≤ 5) (ht : t = tgS k) : ins 10 t = some 1 := by
  rcases tgS_all hk with ⟨-, g⟩ | ⟨-, g⟩ | ⟨-, g⟩ | ⟨-, g⟩ <;> rw [ht, g] <;> rfl
set_option maxHeartbeats 4000000 in
theorem q_make {i : Nat} {B : AH} {m : MS} {c : CS} {d : DS} (hI : Inv i B m c d) (a : Int32) : Ans L xs i B m c d 2 102 [.int a] := by
  obtain ⟨e0, ja, jq, T, z, V, R, FN, FI, ow, hj⟩ := id hI
  obtain ⟨jb, js, jt, jr, jp, jd, jv, ji, jf, jw, jh, jz, jl⟩ := id hj
  obtain ⟨p1, p2, p3, p4⟩ := id jb.1
  obtain ⟨ja1, ja2, ja3, ja4⟩ := id ja
  have hw := jb.2.2.2.2.2
  have hK := hj.K
  have h32 := jb.2.2.1.1
  have c5 : (5 : Int32) = nI 5 := by decide +kernel
  have c40 : (40 : Int32) = nI 40 := by decide +kernel
  have bad : a < 0 ∨ ¬ a ≤ 5 → Ans L xs i B m c d 2 102 [.int a] := fun g => by
    refine Ans.of L xs (B' := B) (c' := c) (d' := d) (r := .int (-1)) ?_ e0 jb.2.1 (fun h hh => ⟨m, ?_, hI.stay⟩)
    · rw [en_2, k_2_0]
      by_cases a0 : a < 0
      · rw [if_pos a0, k_2_9]
      · rw [if_neg a0, k_2_4, if_neg (g.resolve_left a0), k_2_9]
    · rw [en_102, k_102_0]
      by_cases a0 : a < 0
      · rw [if_pos a0, k_102_9]
      · rw [if_neg a0, k_102_4, if_neg (g.resolve_left a0), k_102_9]
  by_cases a0 : a < 0
  · exact bad (Or.inl a0)
  by_cases a5 : a ≤ 5
  · obtain ⟨k, k31, rfl⟩ := nn_of a0
    have hk : k ≤ 5 := by
      rw [c5, (nI_iff k31 (by decide)).1] at a5
      exact a5
    obtain ⟨p, ⟨x1, x2, x3, x4, x5⟩, ⟨y12, y14, y15, y16, y17, y20, y21, y22, y13, y18, y19, y23⟩, hp⟩ := nwT_f B hk
    have eB1 := nwT_ml h32 m k
    rw [e0] at eB1
    have ecl := nwT_cl jb.2.2.1 c k
    have e32 := c32 L xs (cl B d c) hk
    rw [ecl] at e32
    generalize nwT B k = B1 at *
    have jb1 := x1.JB jb
    obtain ⟨r1, r2, r3, r4⟩ := id jb1.1
    have mpre : ∀ h, MB h → XM L xs 102 [.ref 8, .int (nI k)] (ml h m) = X L xs 102 11 [.ref 8, .int (nI k)] [] (ml h m) := fun h hh => by
      rw [en_102, k_102_0, if_neg a0, k_102_4, if_pos a5]
    have cpre : XM L xs 2 [.ref 1, .int (nI k)] (cl B d c) = bI (XM L xs 33 [.ref 1, .ref (nn B + 1)] (cl B1 d c)) fun r h => some (h, some (.int r)) := by
      rw [en_2, k_2_0, if_neg a0, k_2_4, if_pos a5, k_2_11]
      simp only [Hcl, gd_t, decide_true, Bool.and_self, HQ, HZ, cc_0_22_0, e32, bR_s, r1, cc_0_26_1]
    have y0 : nn B + 1 ≠ 0 := Nat.succ_ne_zero _
    have e33 : XM L xs 33 [.ref 1, .ref (nn B + 1)] (cl B1 d c) = if c.K < 40 then X L xs 33 17 [.ref 1, .ref (nn B + 1), .int (nI c.K)] [] (cl B1 d c) else some (cl B1 d c, some (.int (-5))) := by
      rw [en_33, k_33_0]
      simp only [Hcl, r1, r2, r3, r4, HF1, HF2, gd_t, decide_true, Bool.and_self, HQ, HZ, show isA 22 = true from rfl]
      have e40 : Int32.ofNat 40 = nI 40 := rfl
      rw [e40]
      by_cases g : c.K < 40
      · rw [if_pos g, if_pos (by rw [(nI_iff (by omega) (by omega)).2]; exact g)]
      · rw [if_neg g, if_neg (by rw [(nI_iff (by omega) (by omega)).2]; exact g), k_33_14]
    by_cases g : c.K < 40
    · -- a number for it
      have hKn : m.K = c.K := js.1
      generalize hn : c.K = n at *
      have hsn : d.sid (d.sa (n + 1)) ≠ n + 1 := fun q => by
        have := (js.2.2.1 n).mp q
        omega
      have hy := jb.2.2.1.out (show nn B < nn B + 1 by omega)
      have hcld : Cld d c := hj.cld rfl rfl rfl rfl rfl rfl (fun r hr => by
        by_cases l0 : c.la r = 0
        · exact Or.inl l0
        · have k0 : m.kd r = 0 := by
            rcases Nat.eq_zero_or_pos (m.kd r) with q | q
            · exact q
            · exact absurd (jl.1 r hr (by omega)) l0
          exact Or.inr (by rw [(jl.2.1 r hr k0 l0).1]; exact Nat.succ_ne_zero r))
      obtain ⟨c1, hN⟩ := NS_ex c n k p
      have eas := cl_as (h := B1) hN hw hcld hy hsn y12 y14 y15 y16 y17 y20 y21 y22 y13 y18 y19 y23
      obtain ⟨⟨nkd, nhe, npu, nst, nvs, ndp, nlg, nhy, nro, nla, ntl, npa⟩, nck, ncc, nP, ncz, nnv, nf1, nl1, nvn, nvx, nK, nar, ncn, nE, nfk, nfv, nN, nrO, nrP, nrT, nrQ⟩ := hN
      obtain ⟨d', hd'⟩ : ∃ d', d' = d.as (n + 1) (nn B + 1) := ⟨_, rfl⟩
      have hsa : d'.sa (n + 1) = nn B + 1 := by rw [hd']; exact u1_s _ _ _
      have hsd : d'.sid (d'.sa (n + 1)) = n + 1 := by rw [hsa, hd']; exact u1_s _ _ _
      have hw' : DW d' := by rw [hd']; exact hw.as (Nat.succ_ne_zero n) y0 hsn
      rw [← hd'] at eas
      obtain ⟨c2, hc2⟩ : ∃ c2, c2 = c1.sar (u1 c1.ar n (n + 1)) := ⟨_, rfl⟩
      have e2 : c2.kd = c1.kd ∧ c2.he = c1.he ∧ c2.pu = c1.pu ∧ c2.st = c1.st ∧ c2.vs = c1.vs ∧ c2.dp = c1.dp ∧ c2.lg = c1.lg ∧ c2.hy = c1.hy ∧ c2.ro = c1.ro ∧ c2.la = c1.la ∧ c2.tl = c1.tl ∧ c2.pa = c1.pa := by
        rw [hc2]; exact ⟨rfl, rfl, rfl, rfl, rfl, rfl, rfl, rfl, rfl, rfl, rfl, rfl⟩
      obtain ⟨w1, w2, w3, w4, w5, w6, w7, w8, w9, w10, w11, w12⟩ := e2
      have epot : potV B1 c2 n = if 4 ≤ k then prow k 0 4 else 0 := by
        unfold potV
        rw [w1, w7, w8, w2, w12, nkd, nlg, nhy, nhe, npa, u1_s, u1_s, u1_s, u1_s, u1_s]
        by_cases q : 4 ≤ k
        · rw [if_neg (by omega), if_neg (by omega), if_neg (by omega), if_pos q, (hp q).1]
        · rw [if_neg q]
          split
          · rfl
          · split
            · rfl
            · rw [if_pos (by omega)]
      have ty' : tg B1 (d'.sa (n + 1)) = tgS k := by rw [hsa]; exact x5
      have ecp := cpot L xs (b := B1) hsd c2 (by rw [w1, nkd, u1_s]; exact hk) (by rw [w1, nkd, u1_s]; exact ty') (fun q => by
        rw [w1, nkd, u1_s] at q
        rw [w12, npa, u1_s, w2, nhe, u1_s, (hp q).1, (hp q).2.1]
        decide)
      rw [hsa, epot] at ecp
      generalize hpot : (if 4 ≤ k then prow k 0 4 else 0) = pot at *
      obtain ⟨c3, hc3⟩ : ∃ c3, c3 = (c2.spu (u1 c2.pu n (nI pot))).sK (n + 1) := ⟨_, rfl⟩
      have e3 : (c3.kd = u1 c.kd n k ∧ c3.ro = u1 c.ro n 0 ∧ c3.he = u1 c.he n 0 ∧ c3.vs = u1 c.vs n 0 ∧ c3.la = u1 c.la n 0 ∧ c3.tl = u1 c.tl n 0 ∧ c3.dp = u1 c.dp n 0 ∧ c3.lg = u1 c.lg n 0 ∧ c3.hy = u1 c.hy n 0 ∧ c3.pa = u1 c.pa n p) ∧ c3.ck = c.ck ∧ c3.cc = c.cc ∧ c3.P = c.P ∧ c3.cz = c.cz ∧ c3.nv = c.nv ∧ c3.f1 = c.f1 ∧ c3.l1 = c.l1 ∧ c3.vn = c.vn ∧ c3.vx = c.vx ∧ c3.K = n + 1 ∧ c3.ar = u1 c.ar n (n + 1) ∧ c3.cn = c.cn := by
        rw [hc3, hc2]
        exact ⟨⟨nkd, nro, nhe, nvs, nla, ntl, ndp, nlg, nhy, npa⟩, nck, ncc, nP, ncz, nnv, nf1, nl1, nvn, nvx, rfl, by show u1 c1.ar n (n + 1) = _; rw [nar], ncn⟩
      have e4 : c3.pu = u1 (u1 c.pu n 0) n (nI pot) ∧ c3.st = u1 c.st n 0 ∧ c3.E = c.E ∧ c3.fk = c.fk ∧ c3.fv = c.fv ∧ c3.N = c.N ∧ c3.rO = c.rO ∧ c3.rP = c.rP ∧ c3.rT = c.rT ∧ c3.rQ = c.rQ ∧ c3.cn = c.cn := by
        rw [hc3, hc2]
        exact ⟨by show u1 c1.pu n (nI pot) = _; rw [npu], nst, nE, nfk, nfv, nN, nrO, nrP, nrT, nrQ, ncn⟩
      have eK2 : c2.K = n := by rw [hc2]; show c1.K = n; rw [nK]; exact hn
      have run : XM L xs 2 [.ref 1, .int (nI k)] (cl B d c) = some (cl B1 d' c3, some (.int (nI n))) := by
        rw [cpre, e33, if_pos g, k_33_17]
        have ty1 : tg B1 (nn B + 1) = tgS k := x5
        have i10 := ins10 hk ty1
        have n31 : n < 2 ^ 31 := by omega
        simp only [Hcl, r1, r2, r3, r4, HF1, HF2, gd_t, decide_true, Bool.and_self, HQ, HZ, inb_nI g (by decide), nI_clamp n31, i10]
        have esR : sR (cl B1 d c) 2 n (nn B + 1) = cl B1 d' c2 := by
          rw [eas, ← hsa, cl_ar, hc2]
        rw [esR, k_33_24]
        have h15 : hasF (tg B1 (nn B + 1)) 15 = true := by rw [ty1]; exact (tgS_f hk).2.2.2.1
        have epu : wI (cl B1 d' c2) 15 (nn B + 1) (nI pot) = cl B1 d' (c2.spu (u1 c2.pu n (nI pot))) := by rw [← hsa]; exact cl_pu B1 hw' c2 hsd (nI pot)
        simp only [Hcl, gd_t, decide_true, Bool.and_self, HQ, HZ, show decide (nn B + 1 ≠ 0) = true from decide_eq_true y0, ecp, bI_s, h15, epu]
        rw [k_33_32]
        have eK3 : (c2.spu (u1 c2.pu n (nI pot))).K = n := eK2
        simp only [Hcl, r1, r2, r3, r4, HF1, HF2, gd_t, decide_true, Bool.and_self, HQ, HZ, eK3, nI_1, cl_K]
        rw [k_33_42, ← hc3]
        rfl
      clear hc3 hc2
      refine Ans.of L xs (B' := B1) (c' := c3) (d' := d') (r := .int (nI n)) run eB1.symm jb1.2.1 (fun h hh => ?_)
      obtain ⟨b1, b2, b3, b4⟩ := id hh
      obtain ⟨q, e101⟩ := m_101 L xs hh m (up := c.P.2.2) (T := T) (z := z) hj.mw jt.2.1 (show m.K < 40 by omega) hk
      rw [hpot, hKn] at e101
      obtain ⟨m2, hm2⟩ : ∃ m2, m2 = mBeg m k pot := ⟨_, rfl⟩
      rw [← hm2] at e101
      have em : m2.kd = u1 m.kd n k ∧ m2.rt = u1 m.rt n 0 ∧ m2.pl = u1 m.pl n (if 4 ≤ k then 4 else 0) ∧ m2.nu = u1 m.nu n 0 ∧ m2.ky = m.ky ∧ m2.P = m.P ∧ m2.cs = m.cs ∧ m2.fV = m.fV ∧ m2.lV = m.lV ∧ m2.it = m.it ∧ m2.nx = m.nx ∧ m2.K = n + 1 ∧ m2.E = m.E ∧ m2.nm = m.nm ∧ m2.fn = m.fn ∧ m2.im = m.im ∧ m2.fi = m.fi ∧ m2.se = m.se := by
        rw [hm2, ← hKn]
        exact ⟨rfl, rfl, rfl, rfl, rfl, rfl, rfl, rfl, rfl, rfl, rfl, rfl, rfl, rfl, rfl, rfl, rfl, rfl⟩
      have em2 : m2.pu = u1 m.pu n (nI pot).toInt64 ∧ m2.st = u1 m.st n 0 ∧ m2.N = m.N ∧ m2.fk = m.fk ∧ m2.fv = m.fv ∧ m2.rO = m.rO ∧ m2.rP = m.rP ∧ m2.rT = m.rT ∧ m2.rQ = m.rQ := by
        rw [hm2, ← hKn]
        exact ⟨rfl, rfl, rfl, rfl, rfl, rfl, rfl, rfl, rfl⟩
      clear hm2
      obtain ⟨u1', u2, u3, u4, u5, u6, u7, u8, u9⟩ := em2
      have hj2 := make_JJ (m := m) (m' := m2) (c := c) (c' := c3) (y := nn B + 1) (p := p) hj hKn g hk x1 ⟨by omega, x2⟩ x5 hp em e3
      rw [← hd'] at hj2
      refine ⟨m2.sW q, ?_, ?_⟩
      · rw [mpre h hh, k_102_11]
        simp only [Hml, b1, b2, b3, b4, HF10, gd_t, decide_true, Bool.and_self, HQ, HZ]
        rw [c40, if_pos (by rw [nI_eq (by omega) (by decide)]; omega), k_102_25]
        simp only [Hml, b1, b2, b3, b4, HF10, gd_t, decide_true, Bool.and_self, HQ, HZ, cc_9_223_10, e101, bI_s, k_102_30]
      · obtain ⟨v1, v2, v3, v4, v5, v6, v7, v8, v9, v10, v11⟩ := e4
        have hja : JA (m2.sW q) c3 := by
          refine ⟨fun s hs => ?_, ?_, ?_, ?_⟩
          · have hs : s < m2.K := hs
            rw [em.2.2.2.2.2.2.2.2.2.2.2.1] at hs
            show c3.pu s = (m2.pu s).toInt32 ∧ c3.st s = (m2.st s).toInt32
            rw [v1, v2, u1', u2]
            by_cases q : s = n
            · rw [q, u1_s, u1_s, u1_s, u1_s]
              exact ⟨(Int32.toInt32_toInt64 _).symm, rfl⟩
            · rw [u1_o _ _ q, u1_o _ _ q, u1_o _ _ q, u1_o _ _ q, u1_o _ _ q]
              exact ja1 s (by omega)
          · show c3.fk = m2.fk ∧ c3.fv = m2.fv ∧ c3.E = m2.E ∧ m2.se ≤ m2.N ∧ c3.cn ≤ m2.N
            rw [v4, v5, v3, v11, u3, u4, u5, em.2.2.2.2.2.2.2.2.2.2.2.2.1, em.2.2.2.2.2.2.2.2.2.2.2.2.2.2.2.2.2]
            exact ja2
          · show c3.N = m2.N ∧ m2.N ≤ 20000 ∧ c3.rO = m2.rO ∧ c3.rP = m2.rP ∧ c3.rT = m2.rT ∧ c3.rQ = m2.rQ
            rw [v6, v7, v8, v9, v10, u3, u6, u7, u8, u9]
            exact ja3
          · show ∃ t : Nat → Nat, ∀ i, i < m2.N → m2.rT i = nI (t i) ∧ t i ≤ 100000
            rw [u3, u8]
            exact ja4
        have hrw : rwP m2 = rwP m + pot := by
          unfold rwP
          rw [em.2.2.2.2.2.2.2.2.2.2.2.1, List.range_succ, List.map_append, List.sum_append, hKn, em.1, em.2.2.1, em.2.2.2.1]
          have e1 : (List.range n).map (fun s => if 4 ≤ u1 m.kd n k s then prow (u1 m.kd n k s) (u1 m.nu n 0 s) (u1 m.pl n (if 4 ≤ k then 4 else 0) s) else 0) = (List.range n).map (fun s => if 4 ≤ m.kd s then prow (m.kd s) (m.nu s) (m.pl s) else 0) := List.map_congr_left (fun s hs => by
            have sn : s ≠ n := by have := List.mem_range.mp hs; omega
            rw [u1_o _ _ sn, u1_o _ _ sn, u1_o _ _ sn])
          rw [e1]
          have e2 : ([n].map (fun s => if 4 ≤ u1 m.kd n k s then prow (u1 m.kd n k s) (u1 m.nu n 0 s) (u1 m.pl n (if 4 ≤ k then 4 else 0) s) else 0)).sum = pot := by
            show (if 4 ≤ u1 m.kd n k n then prow (u1 m.kd n k n) (u1 m.nu n 0 n) (u1 m.pl n (if 4 ≤ k then 4 else 0) n) else 0) + 0 = pot
            rw [u1_s, u1_s, u1_s, Nat.add_zero, ← hpot]
            by_cases q : 4 ≤ k
            · rw [if_pos q, if_pos q, if_pos q]
            · rw [if_neg q, if_neg q]
          rw [e2]
        have hpb : pot ≤ 2 := by
          rw [← hpot]
          unfold prow
          split
          · rw [if_neg (by omega)]
            split <;> omega
          · omega
        have hjq : JQ B1 (m2.sW q) (i + 1) := by
          refine ⟨?_, ?_⟩
          · show nn B1 ≤ 100 + 4 * m2.N + 10 * (i + 1)
            rw [u3]
            have := jq.1
            omega
          · show sl B1 + 2 * rwP m2 ≤ 1000000 + 20 * m2.N + 200 * (i + 1)
            rw [u3, hrw]
            have := jq.2
            omega
        exact Inv.mk' hja hjq (hj2.sWq q)
    · -- full
      rw [if_neg g] at e33
      rw [e33] at cpre
      refine Ans.of L xs (B' := B1) (c' := c) (d' := d) (r := .int (-5)) cpre eB1.symm jb1.2.1 (fun h hh => ⟨m, ?_, ?_⟩)
      · obtain ⟨b1, b2, b3, b4⟩ := id hh
        have k40 : m.K = 40 := by rw [js.1]; omega
        rw [mpre h hh, k_102_11]
        simp only [Hml, b1, b2, b3, b4, HF10, gd_t, decide_true, Bool.and_self, HQ, HZ]
        rw [c40, k40, if_neg (fun q => q rfl), k_102_20, k_102_30]
      · exact hI.sWx x1 (by omega) (by omega) (m.O, m.Pi, m.Z, m.F, m.la)
  · exact bad (Or.inr a5)
end Mak
