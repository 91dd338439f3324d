-- below, above
section Bes
variable (L : Nat) (xs : Nat → Int32)
theorem bes_go {i : Nat} {B : AH} {m : MS} {c : CS} {d : DS} (hI : Inv i B m c d) {s : Nat} (hs : s < m.K) (hk : m.kd s ≤ 1) (hN : m.N < 20000) (k : Int64) (ab : Bool) : Ans L xs i B m c d 36 83 [.int (nI s), .long k, .int (bI1 ab)] := by
  obtain ⟨e0, ja, jq, T, z, V, R, FN, FI, ow, hj⟩ := id hI
  obtain ⟨jb, js, jt, jr, jp, jd, jv, ji, jf, jw, jh, jz, jl⟩ := id hj
  obtain ⟨p1, p2, p3, p4⟩ := id jb.1
  obtain ⟨h1, h2, h3, h4, h5, h6⟩ := hj.kin hs
  have hw := jb.2.2.2.2.2
  have hK := hj.K
  have hs40 : s < 40 := by omega
  have hs31 : s < 2 ^ 31 := by omega
  have er := ((jr s hs).1 (by omega)).1
  have hzr := hj.zle (hj.rz hs)
  have ehe := hj.he hs (by omega)
  have f16 : hasF (tg B (d.sa (s + 1))) 16 = true := by rw [h6]; exact (tgS_f h5).2.2.2.2
  have f14 : hasF (tg B (d.sa (s + 1))) 14 = true := by rw [h6]; exact (tgS_f h5).2.2.1
  have egB := gB_cg (ky := m.ky) (ky' := c.ck) (P := m.P) jt.1 (fun a ha => ⟨(jp.2 a ha).1, (jp.2 a ha).2.1, (jp.2 a ha).2.2.1⟩) k ab 20003 (c.ro s) 0 0 (hj.rz hs)
  have gle := gB_le (ky := c.ck) (P := c.P) k ab 20003 (c.ro s) 0 0
  have gm := gB_mem (ky := c.ck) jt.1 k ab (Nat.succ_ne_zero s) 20003 (c.ro s) 0 0 (fun q => ((jr s hs).2.2.1 q).1) (fun q => absurd rfl q) (fun q => absurd rfl q)
  have c164' := fun (H : AH) => c164 L xs hw jb.2.2.2.1 h2 (hj.tgt hs hk) c jt.1 (fun x hx => hj.hD x (Or.inr hx)) k ab (F := 20003) (fun x hx => by have := hj.zle hx; omega) (hj.rz hs) (H := H)
  generalize hn : (gB c.ck c.P k ab 20003 (c.ro s) 0 0).1 = n at gm c164'
  generalize hg : (gB c.ck c.P k ab 20003 (c.ro s) 0 0).2.2 = g2 at gle c164'
  generalize hbn : (gB c.ck c.P k ab 20003 (c.ro s) 0 0).2.1 = n' at gm c164'
  obtain ⟨gmem, gmem'⟩ := gm
  generalize hc1 : cSt c s g2 = c1 at c164'
  have e1 : c1.pu = c.pu ∧ c1.st = u1 c.st s (c.st s + nI g2) ∧ c1.fk = c.fk ∧ c1.fv = c.fv ∧ c1.E = c.E ∧ c1.cn = c.cn ∧ c1.N = c.N ∧ c1.rO = c.rO ∧ c1.rP = c.rP ∧ c1.rT = c.rT ∧ c1.rQ = c.rQ ∧ c1.ck = c.ck ∧ c1.la = c.la ∧ c1.f1 = c.f1 ∧ c1.nv = c.nv ∧ c1.vn = c.vn := by
    rw [← hc1]
    exact ⟨rfl, rfl, rfl, rfl, rfl, rfl, rfl, rfl, rfl, rfl, rfl, rfl, rfl, rfl, rfl, rfl⟩
  have hj1 : JJ m (cLz (m.kd s) c1 s) d B T z V R FN FI ow := by
    rw [← hc1]
    exact JJ.lz (hj.sst (u1 c.st s (c.st s + nI g2))) hs
  obtain ⟨q1, q2, q3, q4, q5, q6, q7, q8, q9, q10, q11, q12, q13, q14, q15, q16⟩ := e1
  have lzn : LZ T n := by
    by_cases n0 : n = 0
    · exact Or.inl n0
    · exact Or.inr (by rw [gmem n0]; exact Nat.succ_ne_zero s)
  have lzn' : LZ T n' := by
    by_cases n0 : n' = 0
    · exact Or.inl n0
    · exact Or.inr (by rw [gmem' n0]; exact Nat.succ_ne_zero s)
  have hdn := hj.hD n lzn
  have hdn' := hj.hD n' lzn'
  have nb' : n' ≤ 20002 := by
    rcases lzn' with q | q
    · omega
    · exact jt.2.1.2 n' q
  obtain ⟨f1, f2, f3, f4, f5⟩ := ja.2.1
  have price := c158 L xs h2 f14 c (by omega)
  have price' : cfD (XM L xs) 0 54 (tg B (d.sa (s + 1))) [.ref (d.sa (s + 1))] (cl B d c) = some (cl B d c, some (.int (prT (c.he s)))) := by
    rcases hj.tgt hs hk with q | q
    · rw [q, cc_0_54_5, price]
    · rw [q, cc_0_54_7, price]
  have mpre : ∀ h, MB h → ∃ q, X L xs 83 34 [.ref 8, .int (nI s), .long k, .null, .int (bI1 ab), .null, .null, .null] [] (ml h m) = if n' ≠ 0 then X L xs 83 105 [.ref 8, .int (nI s), .long k, .null, .int (bI1 ab), .int (prT (c.he s)), .int (en n), .int 1] [] (ml h ((((((m.ssp g2).sbs n').sfk (c.ck n')).sfv (m.it (m.fV n')).toInt32)).sW q)) else X L xs 83 105 [.ref 8, .int (nI s), .long k, .null, .int (bI1 ab), .int (prT (c.he s)), .int (en n), .int 0] [] (ml h (((m.ssp g2).sbs n').sW q)) := by
    intro h hh
    obtain ⟨b1, b2, b3, b4⟩ := id hh
    obtain ⟨q, hq⟩ := m_64 L xs hh (m.ssp 0) (up := c.P.2.2) (T := T) (z := z) hj.mw jt.2.1 hs40 (by show LZ T (m.rt s); rw [er]; exact hj.rz hs)
    have hq : XM L xs 64 [.ref 8, .int (nI s)] (ml h (m.ssp 0)) = some (ml h ((m.ssp 0).sW q), some (.int (nI (z (m.rt s))))) := hq
    rw [er, ehe] at hq
    have e71 := s_71 L xs (ml h ((m.ssp 0).sW q)) 8 (c.he s) (by omega)
    have e82 := m_82 L xs hh ((m.ssp 0).sW q) (up := c.P.2.2) (T := T) (z := z) hj.mw jt.2.1 k ab hs40 (by show LZ T (m.rt s); rw [er]; exact hj.rz hs)
    have e82 : XM L xs 82 [.ref 8, .int (nI s), .long k, .int (bI1 ab)] (ml h ((m.ssp 0).sW q)) = some (ml h (((m.ssp (0 + (gB m.ky m.P k ab 20003 (m.rt s) 0 0).2.2)).sbs (gB m.ky m.P k ab 20003 (m.rt s) 0 0).2.1).sW q), some (.int (en (gB m.ky m.P k ab 20003 (m.rt s) 0 0).1))) := e82
    rw [er, egB, hn, hg, hbn, Nat.zero_add] at e82
    refine ⟨q, ?_⟩
    rw [k_83_34]
    simp only [Hml, b1, b2, b3, b4, HF10, gd_t, decide_true, Bool.and_self, HQ, HZ]
    rw [← nI_0, ml_sp, k_83_39]
    simp only [Hml, b1, b2, b3, b4, HF10, gd_t, decide_true, Bool.and_self, HQ, HZ, cc_9_150_10, hq, bI_s, cc_9_153_10, e71, cc_9_216_10, e82, SWq, Sbs, en_m1 (show n' < 2 ^ 31 by omega)]
    by_cases n0 : n' = 0
    · rw [if_pos n0, k_83_72, k_83_73, if_pos rfl, if_neg (fun g => g n0), nI_0]
    · have tn : T n' ≠ 0 := lzn'.resolve_left n0
      have v1 := hj.f1 tn
      have pc := jp.2 n' tn
      rw [if_neg n0, k_83_68, k_83_73, if_neg (by decide), k_83_80]
      simp only [Hml, b1, b2, b3, b4, HF10, gd_t, decide_true, Bool.and_self, HQ, HZ, SWq, Ssp, Sbs, inb_en (show 1 ≤ n' by omega) nb' (by decide), cl_en (show 1 ≤ n' by omega) (show n' < 2 ^ 31 by omega), show n' - 1 + 1 = n' from by omega, pc.2.2.1, ml_fk]
      rw [k_83_93]
      have e58 := m_58 L xs hh ((((m.ssp g2).sbs n').sW q).sfk (c.ck n')) (show 1 ≤ n' by omega) nb' (show 1 ≤ m.fV n' by omega) (show m.fV n' ≤ 20002 by omega)
      have e58 : XM L xs 58 [.ref 8, .int (en n')] (ml h ((((m.ssp g2).sbs n').sW q).sfk (c.ck n'))) = some (ml h ((((m.ssp g2).sbs n').sW q).sfk (c.ck n')), some (.int (m.it (m.fV n')).toInt32)) := e58
      simp only [Hml, b1, b2, b3, b4, HF10, gd_t, decide_true, Bool.and_self, HQ, HZ, Sfk, SWq, Sbs, cc_9_188_10, e58, bI_s, ml_fv]
      rw [if_pos n0]
      rfl
  have fin : ∀ (mF : MS) (r : Int32), JJ mF (cLz (mF.kd s) (cRem c1 n') s) d B T z V R FN FI ow → JM mF (cRem c1 n') s → mF.sp = g2 → mF.K = m.K → mF.kd = m.kd → mF.st = m.st → mF.N = m.N → rwP mF = rwP m → BP mF.P → mF.P = m.P → r = (if n' = 0 then 0 else 1) → (∀ h, MB h → ∃ q, X L xs 83 34 [.ref 8, .int (nI s), .long k, .null, .int (bI1 ab), .null, .null, .null] [] (ml h m) = X L xs 83 105 [.ref 8, .int (nI s), .long k, .null, .int (bI1 ab), .int (prT (c.he s)), .int (en n), .int r] [] (ml h (mF.sW q))) → Ans L xs i B m c d 36 83 [.int (nI s), .long k, .int (bI1 ab)] := by
    intro mF r hjF hMF hsp eK ekd est eN erw hBP ePm hr hm
    have hsF : s < mF.K := by rw [eK]; exact hs
    have hkF : mF.kd s ≤ 1 := by rw [ekd]; exact hk
    obtain ⟨s1, ⟨z2, s2⟩, s3, s4, s5⟩ := stl_ok L xs hjF hsF hkF gmem hMF (by omega)
    rw [ekd] at s1 s2 s3 s5
    have hTr := HmTrn mF s n
    have hsT : s < (mTrn mF s n).K := by rw [hTr.2.2.2.2.2.2.1]; exact hsF
    obtain ⟨k1, -⟩ := cls L xs s2 s3 hsT (prT (c.he s)) (c.st s) (by rw [hTr.2.2.2.2.2.2.2.2.1, est]; exact (ja.1 s hs).2)
    have eR : cRem (cStl (m.kd s) c1 s n T) n' = cStl (m.kd s) (cRem c1 n') s n T := by
      unfold cRem
      by_cases g : n' = 0
      · rw [if_pos g, if_pos g]
      · rw [if_neg g, if_neg g, cStl_fkv, (HcStl (m.kd s) c1 s n T).1, (HcStl (m.kd s) c1 s n T).2.2.1, (HcStl (m.kd s) c1 s n T).2.2.2.1]
    have hMm : JM (m.ssp g2) c1 s := by
      refine JM.of ja hN hs q1 q2 rfl rfl rfl (by show g2 ≤ 100000; omega) ⟨by rw [q3]; exact f1, by rw [q4]; exact f2, by rw [q5]; exact f3, by show m.se ≤ m.N + 1; omega, by rw [q6]; omega⟩ q7 rfl q8 q9 q10 q11 rfl rfl rfl rfl
    obtain ⟨v1, -⟩ := stl_ok L xs (m := m.ssp g2) (hj1.ssp g2) hs hk gmem hMm (by show g2 ≤ 50000; omega)
    have v1 := v1 m
    rw [e0] at v1
    have v1 : cfD (XM L xs) 11 50 (tg B (d.sa (s + 1))) [.ref (d.sa (s + 1)), .ref (d.ph n)] (cl B d c1) = some (cl B d (cStl (m.kd s) c1 s n T), none) := v1
    have sk := c164' _ v1
    have sk' : cfD (XM L xs) 0 262 (tg B (d.sa (s + 1))) [.ref (d.sa (s + 1)), .long k, .int (bI1 ab)] (cl B d c) = some (cl B d (cStl (m.kd s) c1 s n T), some (.ref (d.ph n'))) := by
      rcases hj.tgt hs hk with q | q
      · rw [q, cc_0_262_5, sk]
      · rw [q, cc_0_262_7, sk]
    have rem := c37 L xs jb.1 hw jb.2.2.2.1 jb.2.2.2.2.1 (cStl (m.kd s) c1 s n T) hdn' (fun g => by
      rw [(HcStl (m.kd s) c1 s n T).2.2.1, q14]
      have := hj.f1 (lzn'.resolve_left g)
      rw [this.1]; exact this.2.2.2.1)
    rw [eR] at rem
    have hcA : XM L xs 36 [.ref 1, .int (nI s), .long k, .int (bI1 ab)] (cl B d c) = some (cl B d (cCls (cStl (m.kd s) (cRem c1 n') s n T) s (nI s) (prT (c.he s)) (nI (mTrn mF s n).sp) (nI (potV B (cStl (m.kd s) (cRem c1 n') s n T) s))), some (.int r)) := by
      rw [((pre_36 L xs ja hj (nI s) k (bI1 ab)).2 s hs rfl).1, if_pos hk, if_neg (by omega), k_36_31]
      simp only [Hcl, p1, p2, p3, p4, HF1, HF2, gd_t, decide_true, Bool.and_self, HQ, HZ, dS hw h2, price', bI_s, f16, Rs d h2, sk', bR_s, cc_0_68_1, rem, bV_s, cc_0_72_1, k1, ph0 hw hdn']
      by_cases g : n' = 0
      · rw [if_pos g, k_36_77, k_36_82, hr, if_pos g]
      · rw [if_neg g, k_36_81, k_36_82, hr, if_neg g]
    refine Ans.of L xs hcA e0 jb.2.1 (fun h hh => ?_)
    obtain ⟨b1, b2, b3, b4⟩ := id hh
    obtain ⟨q, hq⟩ := hm h hh
    have trn := m_73 L xs hh (mF.sW q) (S := ind T (s + 1)) (z := z) hBP hs40 (by show mF.kd s ≤ 5; omega) (n := n) (by
      rcases lzn with g | g
      · omega
      · exact jt.2.1.2 n g) (fun g1 g2 => by
      have κ0 : s + 1 ≠ 0 := Nat.succ_ne_zero s
      have lv : ∀ a, ind T (s + 1) a ≠ 0 → T a = s + 1 := fun a ha => (ind_ne κ0 a).mp ha
      have hWi : WF c.P (ind T (s + 1)) z := WF.ind (l := c.P.1) (r := c.P.2.1) (u := c.P.2.2) (u' := c.P.2.2) jt.1 κ0 (fun _ _ => rfl)
      refine ⟨hWi.pt (fun a ha => ?_), fun a ha => jt.2.1.2 a (by rw [lv a ha]; exact κ0), by rw [ind_eq (gmem g2)]; exact κ0⟩
      show mF.P.1 a = _ ∧ mF.P.2.1 a = _ ∧ mF.P.2.2 a = _
      rw [ePm]
      have p := jp.2 a (by rw [lv a ha]; exact κ0)
      exact ⟨p.1, p.2.1, p.2.2.2 (by rw [lv a ha, Nat.add_sub_cancel]; exact hk)⟩)
    rw [mTrn_sW] at trn
    obtain ⟨q3, hq3⟩ := clsq L xs s2 s3 hsT (prT (c.he s)) (c.st s) (by rw [hTr.2.2.2.2.2.2.2.2.1, est]; exact (ja.1 s hs).2) q h hh
    refine ⟨((mAct (mTrn mF s n) s (prT (c.he s)) (nI (potV B (cStl (m.kd s) (cRem c1 n') s n T) s))).sW q3), ?_, ?_⟩
    · rw [((pre_36 L xs ja hj (nI s) k (bI1 ab)).2 s hs rfl).2 h hh, if_pos hk, if_neg (by omega), hq, k_83_105]
      simp only [Hml, b1, b2, b3, b4, HF10, gd_t, decide_true, Bool.and_self, HQ, HZ, cc_9_169_10, trn, bV_s, cc_9_172_10, hq3]
      by_cases g : n' = 0
      · rw [if_pos g] at hr
        rw [hr, if_pos rfl, k_83_128, k_83_129]
      · rw [if_neg g] at hr
        rw [hr, if_neg (by decide), k_83_124, k_83_129]
    · exact Inv.up (Inv.act s2 s3 hsT _ _ q3 jq (by rw [hTr.2.2.2.2.2.2.2.1, eN]) (by omega) (by rw [rwP_trn, erw]; omega))
  by_cases n0 : n' = 0
  · have eR1 : cRem c1 n' = c1 := by unfold cRem; rw [if_pos n0]
    refine fin ((m.ssp g2).sbs n') 0 ?_ ?_ rfl rfl rfl rfl rfl rfl jp.1 rfl (by rw [if_pos n0]) (fun h hh => ?_)
    · rw [eR1]
      exact (hj1.ssp g2).sbs n'
    · rw [eR1]
      exact JM.of ja hN hs q1 q2 rfl rfl rfl (by show g2 ≤ 100000; omega) ⟨by show c1.fk = m.fk; rw [q3]; exact f1, by show c1.fv = m.fv; rw [q4]; exact f2, by show c1.E = m.E; rw [q5]; exact f3, by show m.se ≤ m.N + 1; omega, by show c1.cn ≤ m.N + 1; rw [q6]; omega⟩ q7 rfl q8 q9 q10 q11 rfl rfl rfl rfl
    · obtain ⟨q, hq⟩ := mpre h hh
      rw [if_neg (fun g => g n0)] at hq
      exact ⟨q, hq⟩
  · have tn : T n' ≠ 0 := lzn'.resolve_left n0
    have v1 := hj.f1 tn
    have eR1 : cRem c1 n' = (c1.sfk (c.ck n')).sfv (m.it (m.fV n')).toInt32 := by
      unfold cRem
      rw [if_neg n0, q12, q14, q16, v1.1, if_neg v1.2.1, v1.2.2.2.2.1]
    refine fin ((((m.ssp g2).sbs n').sfk (c.ck n')).sfv (m.it (m.fV n')).toInt32) 1 ?_ ?_ rfl rfl rfl rfl rfl rfl jp.1 rfl (by rw [if_neg n0]) (fun h hh => ?_)
    · rw [eR1]
      show JJ _ (cLz (m.kd s) _ s) d B T z V R FN FI ow
      rw [cLz_fkv]
      exact ((hj1.ssp g2).sbs n').fkv _ _ _ _
    · rw [eR1]
      exact JM.of ja hN hs q1 q2 rfl rfl rfl (by show g2 ≤ 100000; omega) ⟨rfl, rfl, by show c1.E = m.E; rw [q5]; exact f3, by show m.se ≤ m.N + 1; omega, by show c1.cn ≤ m.N + 1; rw [q6]; omega⟩ q7 rfl q8 q9 q10 q11 rfl rfl rfl rfl
    · obtain ⟨q, hq⟩ := mpre h hh
      rw [if_pos n0] at hq
      exact ⟨q, hq⟩
theorem q_bes {i : Nat} {B : AH} {m : MS} {c : CS} {d : DS} (hI : Inv i B m c d) (a : Int32) (k : Int64) (ab : Bool) : Ans L xs i B m c d 36 83 [.int a, .long k, .int (bI1 ab)] := by
  obtain ⟨e0, ja, jq, T, z, V, R, FN, FI, ow, hj⟩ := id hI
  have pp := pre_36 L xs ja hj a k (bI1 ab)
  rcases st_of hj.K.1 a with ha | ⟨s, hs, rfl⟩
  · exact Ans.of L xs (pp.1 ha).1 e0 hj.1.2.1 (fun h hh => ⟨m, (pp.1 ha).2 h hh, hI.stay⟩)
  · obtain ⟨x1, x2⟩ := pp.2 s hs rfl
    by_cases hk : m.kd s ≤ 1
    · by_cases hN : m.N = 20000
      · rw [if_pos hk, if_pos hN] at x1
        exact Ans.of L xs x1 e0 hj.1.2.1 (fun h hh => ⟨m, by rw [x2 h hh, if_pos hk, if_pos hN], hI.stay⟩)
      · exact bes_go L xs hI hs hk (by have := ja.2.2.1.2.1; omega) k ab
    · rw [if_neg hk] at x1
      exact Ans.of L xs x1 e0 hj.1.2.1 (fun h hh => ⟨m, by rw [x2 h hh, if_neg hk], hI.stay⟩)
theorem q_below {i : Nat} {B : AH} {m : MS} {c : CS} {d : DS} (hI : Inv i B m c d) (a : Int32) (k : Int64) : Ans L xs i B m c d 7 84 [.int a, .long k] := by
  obtain ⟨B', c', d', m', r, x1, x2, x3, x4⟩ := q_bes L xs hI a k false
  obtain ⟨v, rfl⟩ := vk_int x4
  obtain ⟨e0, ja, jq, T, z, V, R, FN, FI, ow, hj⟩ := id hI
  obtain ⟨-, -, -, T', z', V', R', FN', FI', ow', hj'⟩ := id x3
  obtain ⟨p1, p2, p3, p4⟩ := id hj.1.1
  have t8 : tg B' 8 = 10 := hj'.1.2.1.1
  refine ⟨B', c', d', m', .int v, ?_, ?_, x3, rfl⟩
  · rw [en_7, k_7_0]
    simp only [Hcl, p1, p2, p3, p4, HF1, HF2, gd_t, decide_true, Bool.and_self, HQ, HZ, cc_0_87_1]
    rw [show XM L xs 36 [.ref 1, .int a, .long k, .int 0] (cl B d c) = some (cl B' d' c', some (.int v)) from x1]
    rfl
  · rw [en_84, k_84_0]
    simp only [Hcl, p1, p2, p3, p4, HF1, HF2, gd_t, decide_true, Bool.and_self, HQ, HZ, t8, cc_9_220_10]
    rw [show XM L xs 83 [.ref 8, .int a, .long k, .int 0] (cl B' d' c') = some (cl (ml B' m') d' c', some (.int v)) from x2]
    rfl
theorem q_above {i : Nat} {B : AH} {m : MS} {c : CS} {d : DS} (hI : Inv i B m c d) (a : Int32) (k : Int64) : Ans L xs i B m c d 8 85 [.int a, .long k] := by
  obtain ⟨B', c', d', m', r, x1, x2, x3, x4⟩ := q_bes L xs hI a k true
  obtain ⟨v, rfl⟩ := vk_int x4
  obtain ⟨e0, ja, jq, T, z, V, R, FN, FI, ow, hj⟩ := id hI
  obtain ⟨-, -, -, T', z', V', R', FN', FI', ow', hj'⟩ := id x3
  obtain ⟨p1, p2, p3, p4⟩ := id hj.1.1
  have t8 : tg B' 8 = 10 := hj'.1.2.1.1
  refine ⟨B', c', d', m', .int v, ?_, ?_, x3, rfl⟩
  · rw [en_8, k_8_0]
    simp only [Hcl, p1, p2, p3, p4, HF1, HF2, gd_t, decide_true, Bool.and_self, HQ, HZ, cc_0_87_1]
    rw [show XM L xs 36 [.ref 1, .int a, .long k, .int 1] (cl B d c) = some (cl B' d' c', some (.int v)) from x1]
    rfl
  · rw [en_85, k_85_0]
    simp only [Hcl, p1, p2, p3, p4, HF1, HF2, gd_t, decide_true, Bool.and_self, HQ, HZ, t8, cc_9_220_10]
    rw [show XM L xs 83 [.ref 8, .int a, .long k, .int 1] (cl B' d' c') = some (cl (ml B' m') d' c', some (.int v)) from x2]
    rfl
end Bes
