-- an item goes, its node stays; the reference's plainGoes and rootGoes
set_option maxHeartbeats 4000000 in
theorem less_tr {m m' : MS} {c c' : CS} {d : DS} {B : AH} {T z : Nat → Nat} {V R : Nat → List Nat} {FN FI : List Nat} {ow : Nat → Nat} (hj : JJ m c d B T z V R FN FI ow) {s n i : Nat} {t : List Nat} (hs : s < m.K) (ks : m.kd s ≤ 1) (hn : T n = s + 1) (hV : V n = i :: t) (ht : t ≠ [])
    (em : m'.kd = m.kd ∧ m'.rt = m.rt ∧ m'.pl = m.pl ∧ m'.nu = m.nu ∧ m'.cs = m.cs ∧ m'.it = m.it ∧ m'.nx = u1 m.nx i m.fi ∧ m'.K = m.K ∧ m'.E = m.E - 1 ∧ m'.nm = m.nm ∧ m'.fn = m.fn ∧ m'.im = m.im ∧ m'.fi = i ∧ m'.se = m.se ∧ m'.P = m.P ∧ m'.ky = m.ky ∧ m'.lV = m.lV ∧ m'.fV = u1 m.fV n (m.nx i))
    (ec : c'.cc = c.cc ∧ c'.vn = c.vn ∧ c'.vx = c.vx ∧ c'.kd = c.kd ∧ c'.ro = c.ro ∧ c'.he = c.he ∧ c'.vs = u1 c.vs s (c.vs s - 1) ∧ c'.hy = c.hy ∧ c'.la = c.la ∧ c'.tl = c.tl ∧ c'.dp = c.dp ∧ c'.pa = c.pa ∧ c'.K = c.K ∧ c'.ar = c.ar ∧ c'.cn = c.cn ∧ c'.lg = c.lg ∧ c'.P = c.P ∧ c'.ck = c.ck ∧ c'.cz = c.cz ∧ c'.l1 = c.l1 ∧ c'.f1 = u1 c.f1 n (c.vx (c.f1 n)) ∧ c'.nv = u1 c.nv n (c.nv n - 1)) :
    JJ m' c' (d.di i) B T z (u1 V n t) R FN (i :: FI) (u1 ow i 50000) := by
  obtain ⟨jb, js, jt, jr, jp, jd, jv, ji, jf, jw, jh, jz, jl⟩ := id hj
  obtain ⟨m1, m2, m3, m4, m7, m10, m11, m12, m13, m14, m15, m16, m17, m18, m19, m20, m21, m22⟩ := em
  obtain ⟨c2, c8, c9, c10, c11, c12, c13, c13a, c14, c15, c16, c19, c20, c21, c22, c3, c4, c5, c6, c7, c17, c18⟩ := ec
  have κ0 : s + 1 ≠ 0 := Nat.succ_ne_zero s
  have tn : T n ≠ 0 := by rw [hn]; exact κ0
  have n0 := jt.1.n0 tn
  have nb := jt.2.1.2 n tn
  obtain ⟨v1, v2, v3, v4, v5, v6, v7, v8⟩ := jv n tn
  rw [hV] at v2 v4 v6 v7 v8
  have oi : ow i = n := (v8 i List.mem_cons_self).1
  have i0 : i ≠ 0 := v2.2.1
  have it' : i ∉ t := (List.nodup_cons.mp v7).1
  have iw := item_let ji (i := i) (by rw [oi]; exact n0) (by rw [oi]; omega)
  have nV : ∀ b, T b ≠ 0 → b ≠ n → i ∉ V b := fun b hb hne g => by
    have := ((jv b hb).2.2.2.2.2.2.2 i g).1
    rw [oi] at this
    exact hne this.symm
  have nR : ∀ t, t < m.K → 4 ≤ m.kd t → i ∉ R t := fun t ht hkt g => by
    have := (jw.1 t ht hkt).2.2.1 _ g
    omega
  refine ⟨jb.di i, js.cg m12 m1 c20 c21 c10, jt.cg m12 m1 c4, jr.cg m12 m1 m2 m3 c11 c4, jp.cg m19 m20 m1 c4 c5, jd.di i0 (by rw [oi]; exact n0) (by rw [oi]; exact nb), fun b hb => ?_, ?_, jf.cg m19 m15 m14, ?_, jh.cg m7 m18 m1 c2 c22, ?_, ?_⟩
  · rw [m11, c8, m10, c9, m21, m22, c7, c17, c18]
    by_cases g : b = n
    · rw [g, u1_s, u1_s, u1_s, u1_s]
      have ef : c.f1 n = i := by rw [v3]; exact v2.1
      refine ⟨ht, Chn_u it' v2.2.2, ?_, ?_, v5, ?_, (List.nodup_cons.mp v7).2, fun j hj' => ?_⟩
      · rw [ef]; exact (v8 i List.mem_cons_self).2.2
      · rw [v4]
        cases t with
        | nil => exact absurd rfl ht
        | cons a t => rfl
      · rw [v6, List.length_cons, Nat.add_sub_cancel]
      · have ne : j ≠ i := fun h => it' (by rw [← h]; exact hj')
        rw [u1_o _ _ ne, u1_o _ _ ne]
        exact v8 j (List.mem_cons_of_mem _ hj')
    · obtain ⟨w1, w2, w3, w4, w5, w6, w7, w8⟩ := jv b hb
      rw [u1_o _ _ g, u1_o _ _ g, u1_o _ _ g, u1_o _ _ g]
      refine ⟨w1, Chn_u (nV b hb g) w2, w3, w4, w5, w6, w7, fun j hj' => ?_⟩
      have ne : j ≠ i := fun h => nV b hb g (by rw [← h]; exact hj')
      rw [u1_o _ _ ne, u1_o _ _ ne]
      exact w8 j hj'
  · obtain ⟨i1, i2, i3, i4, i5, i6, i7⟩ := ji
    refine ⟨by rw [m11, m17]; exact iw.2.1, iw.2.2.1, fun j hj' => ?_, by rw [m16, m13]; exact iw.2.2.2.1, by rw [m16]; exact i5, fun j hj' => ?_, fun j h1 h2 => ?_⟩
    · by_cases g : j = i
      · rw [g, u1_s]
      · rw [u1_o _ _ g]
        exact i3 j ((List.mem_cons.mp hj').resolve_left g)
    · rw [m16]
      by_cases g : j = i
      · rw [g]; exact i6 i (by rw [oi]; exact n0)
      · rw [u1_o _ _ g] at hj'
        exact i6 j hj'
    · have ji' : j ≠ i := fun g => by rw [g, u1_s] at h2; omega
      rw [u1_o _ _ ji'] at h1 h2 ⊢
      obtain ⟨t1, t2⟩ := i7 j h1 h2
      refine ⟨t1, ?_⟩
      by_cases g : ow j = n
      · rw [g, u1_s]
        rw [g, hV] at t2
        exact (List.mem_cons.mp t2).resolve_left ji'
      · rw [u1_o _ _ g]
        exact t2
  · refine ⟨fun r hr hkt => ?_, fun r u hr hu hkt hku => ?_⟩
    · rw [m12] at hr
      rw [m1] at hkt
      obtain ⟨w1, w2, w3, w4, w5, w6, w7, w8⟩ := jw.1 r hr hkt
      unfold JWs
      rw [m2, m4, m3, c12, c19, m10, m11]
      refine ⟨Chn_u (nR r hr hkt) w1, w2, fun j hj' => ?_, w4, w5, w6, w7, w8⟩
      rw [u1_o _ _ (fun q => nR r hr hkt (by rw [← q]; exact hj'))]
      exact w3 j hj'
    · rw [m12] at hr hu
      rw [m1] at hkt hku
      rw [c19]
      exact jw.2 r u hr hu hkt hku
  · refine ⟨fun r hr => ?_, fun a ha h => ?_, fun a ha h => ?_⟩
    · rw [m12] at hr
      rw [m1, c12, c13, c3, c13a, c4]
      obtain ⟨z1, z2, z3, z4⟩ := jz.1 r hr
      refine ⟨z1, fun h => ?_, z3, z4⟩
      by_cases g : r = s
      · rw [g, u1_s, (jz.1 s hs).2.1 ks]
        have d2 := Sm_upd jt.2.1 κ0 (fun a => (V a).length) (a := n) t.length hn
        have e2 : u1 (fun a => (V a).length) n t.length = (fun a => (u1 V n t a).length) := by
          funext a
          by_cases h : a = n
          · rw [h, u1_s, u1_s]
          · rw [u1_o _ _ h, u1_o _ _ h]
        rw [e2] at d2
        have ln1 : (V n).length = t.length + 1 := by rw [hV]; rfl
        have d2 : Sm T (s + 1) (fun a => (u1 V n t a).length) + (V n).length = Sm T (s + 1) (fun a => (V a).length) + t.length := d2
        omega
      · rw [u1_o _ _ g, z2 h]
        refine (Sm_congr jt.2.1 (Nat.succ_ne_zero r) (fun a ha => ?_)).symm
        have an : a ≠ n := fun q => by rw [q, hn] at ha; omega
        show (u1 V n t a).length = _
        rw [u1_o _ _ an]
    · rw [m1] at h
      rw [c6]
      exact jz.2.1 a ha h
    · rw [m1] at h
      have an : a ≠ n := fun q => by rw [q, hn, Nat.add_sub_cancel] at h; omega
      rw [u1_o _ _ an]
      exact jz.2.2 a ha h
  · exact jl.cg (d := d) m12 m1 c14 c15 c16 c4 c5 c11
def mTk (m : MS) (s n ch : Nat) : MS := mLetN ((m.sP (tkP m.P n ch)).srt (if m.P.2.2 n = 0 then u1 m.rt s ch else m.rt)) n
def mMv (m : MS) (n e k : Nat) : MS := (((m.ssp (m.sp + 1 + k)).sky (u1 m.ky n (m.ky e))).sfV (u1 m.fV n (m.fV e))).slV (u1 m.lV n (m.lV e))
def mRg (m : MS) (s n : Nat) : MS := ((mLetN m n).srt (u1 m.rt s (m.P.2.1 n))).sP (if m.P.2.1 n = 0 then (mLetN m n).P else ((mLetN m n).P.1, m.P.2.1, u1 m.P.2.2 (m.P.2.1 n) 0))
section M80
variable (L : Nat) (xs : Nat → Int32)
theorem m_80a {h : AH} (hb : MB h) (m : MS) {s n : Nat} (hs : s < 40) (n1 : 1 ≤ n) (n2 : n ≤ 20002) (hBP : BP m.P) (hc : m.P.1 n = 0 ∨ m.P.2.1 n = 0) :
    XM L xs 80 [.ref 8, .int (nI s), .int (en n)] (ml h m) = some (ml h (mTk m s n (oneC m.P n)), none) := by
  obtain ⟨b1, b2, b3, b4⟩ := id hb
  have n31 : n < 2 ^ 31 := by omega
  have en1 : n - 1 + 1 = n := by omega
  obtain ⟨bl, br, bu⟩ := hBP n
  have ob : oneC m.P n ≤ 20002 := by unfold oneC; split <;> assumption
  have e81 := m_81 L xs hb m hs n1 n2 ob bu (fun x => (hBP x).1)
  have e53 := m_53 L xs hb ((m.sP (tkP m.P n (oneC m.P n))).srt (if m.P.2.2 n = 0 then u1 m.rt s (oneC m.P n) else m.rt)) n1 n2
  have e2 : X L xs 80 20 [.ref 8, .int (nI s), .int (en n), .null] [] (ml h m) = some (ml h (mTk m s n (oneC m.P n)), none) := by
    rw [k_80_20]
    simp only [Hml, b1, b2, b3, b4, HF10, gd_t, decide_true, Bool.and_self, HQ, HZ, inb_en n1 n2 (by decide), cl_en n1 n31, en1, en_m1 (show m.P.1 n < 2 ^ 31 by omega)]
    unfold mTk
    by_cases l0 : m.P.1 n = 0
    · have eo : oneC m.P n = m.P.2.1 n := if_pos l0
      rw [eo] at e81 e53 ⊢
      rw [if_neg (fun q => q l0), k_80_33]
      simp only [Hml, b1, b2, b3, b4, HF10, gd_t, decide_true, Bool.and_self, HQ, HZ, inb_en n1 n2 (by decide), cl_en n1 n31, en1]
      rw [k_80_48]
      simp only [Hml, b1, b2, b3, b4, HF10, gd_t, decide_true, Bool.and_self, HQ, HZ, cc_9_209_10, e81, bV_s, cc_9_203_10, e53]
    · have eo : oneC m.P n = m.P.1 n := if_neg l0
      rw [eo] at e81 e53 ⊢
      rw [if_pos l0, k_80_42]
      simp only [Hml, b1, b2, b3, b4, HF10, gd_t, decide_true, Bool.and_self, HQ, HZ, inb_en n1 n2 (by decide), cl_en n1 n31, en1]
      rw [k_80_48]
      simp only [Hml, b1, b2, b3, b4, HF10, gd_t, decide_true, Bool.and_self, HQ, HZ, cc_9_209_10, e81, bV_s, cc_9_203_10, e53]
  rw [en_80, k_80_0]
  simp only [Hml, b1, b2, b3, b4, HF10, gd_t, decide_true, Bool.and_self, HQ, HZ, inb_en n1 n2 (by decide), cl_en n1 n31, en1, en_m1 (show m.P.1 n < 2 ^ 31 by omega)]
  by_cases l0 : m.P.1 n = 0
  · rw [if_pos l0, e2]
  · rw [if_neg l0, k_80_10]
    simp only [Hml, b1, b2, b3, b4, HF10, gd_t, decide_true, Bool.and_self, HQ, HZ, inb_en n1 n2 (by decide), cl_en n1 n31, en1, en_m1 (show m.P.2.1 n < 2 ^ 31 by omega)]
    rw [if_neg (fun q => q (hc.resolve_left l0)), e2]
theorem m_80b {h : AH} (hb : MB h) (m : MS) {s n : Nat} (hs : s < 40) (hBP : BP m.P) {up T z : Nat → Nat} (hw : WF (m.P.1, m.P.2.1, up) T z) (hT : TN T) (hn : T n ≠ 0) (hl : m.P.1 n ≠ 0) (hr : m.P.2.1 n ≠ 0) {e k : Nat} (he : lR m.P 20003 (m.P.1 n) = (e, k)) :
    XM L xs 80 [.ref 8, .int (nI s), .int (en n)] (ml h m) = some (ml h (mTk (mMv m n e k) s e (m.P.1 e)), none) := by
  obtain ⟨b1, b2, b3, b4⟩ := id hb
  have n1 : 1 ≤ n := Nat.pos_of_ne_zero (hw.n0 hn)
  have n2 := hT.2 n hn
  have n31 : n < 2 ^ 31 := by omega
  have en1 : n - 1 + 1 = n := by omega
  obtain ⟨bl, br, bu⟩ := hBP n
  have tl : T (m.P.1 n) ≠ 0 := (hw.lzl hn).resolve_left hl
  have te := lR_mem hw 20003 (m.P.1 n) tl
  rw [← lR_cg (P := m.P) (Q := (m.P.1, m.P.2.1, up)) hw (fun _ _ => ⟨rfl, rfl⟩) 20003 (m.P.1 n) tl, he] at te
  have te3 : T e ≠ 0 := by
    have te : T e = T (m.P.1 n) := te
    rw [te]; exact tl
  have e1 : 1 ≤ e := Nat.pos_of_ne_zero (hw.n0 te3)
  have e2 := hT.2 e te3
  have e31 : e < 2 ^ 31 := by omega
  have en2 : e - 1 + 1 = e := by omega
  obtain ⟨cl', cr', cu'⟩ := hBP e
  have e79 := m_79 L xs hb (m.ssp (m.sp + 1)) (up := up) (T := T) (z := z) hw hT tl
  have e79 : XM L xs 79 [.ref 8, .int (en (m.P.1 n))] (ml h (m.ssp (m.sp + 1))) = some (ml h (m.ssp (m.sp + 1 + (lR m.P 20003 (m.P.1 n)).2)), some (.int (en (lR m.P 20003 (m.P.1 n)).1))) := e79
  rw [he] at e79
  have e81 := m_81 L xs hb (mMv m n e k) hs e1 e2 (ch := m.P.1 e) cl' cu' (fun x => (hBP x).1)
  have e53 := m_53 L xs hb (((mMv m n e k).sP (tkP (mMv m n e k).P e (m.P.1 e))).srt (if (mMv m n e k).P.2.2 e = 0 then u1 (mMv m n e k).rt s (m.P.1 e) else (mMv m n e k).rt)) e1 e2
  rw [en_80, k_80_0]
  simp only [Hml, b1, b2, b3, b4, HF10, gd_t, decide_true, Bool.and_self, HQ, HZ, inb_en n1 n2 (by decide), cl_en n1 n31, en1, en_m1 (show m.P.1 n < 2 ^ 31 by omega)]
  rw [if_neg hl, k_80_10]
  simp only [Hml, b1, b2, b3, b4, HF10, gd_t, decide_true, Bool.and_self, HQ, HZ, inb_en n1 n2 (by decide), cl_en n1 n31, en1, en_m1 (show m.P.2.1 n < 2 ^ 31 by omega)]
  rw [if_pos hr, k_80_57]
  simp only [Hml, b1, b2, b3, b4, HF10, gd_t, decide_true, Bool.and_self, HQ, HZ, nI_1, ml_sp]
  rw [k_80_67]
  simp only [Hml, b1, b2, b3, b4, HF10, gd_t, decide_true, Bool.and_self, HQ, HZ, Ssp, inb_en n1 n2 (by decide), cl_en n1 n31, en1, cc_9_206_10, e79, bI_s, inb_en e1 e2 (by decide), cl_en e1 e31, en2, ml_ky h _ n1]
  rw [k_80_90]
  simp only [Hml, b1, b2, b3, b4, HF10, gd_t, decide_true, Bool.and_self, HQ, HZ, Ssp, Sky, inb_en n1 n2 (by decide), cl_en n1 n31, en1, inb_en e1 e2 (by decide), cl_en e1 e31, en2, ml_fV h _ n1]
  rw [k_80_102]
  simp only [Hml, b1, b2, b3, b4, HF10, gd_t, decide_true, Bool.and_self, HQ, HZ, Ssp, Sky, SfV, inb_en n1 n2 (by decide), cl_en n1 n31, en1, inb_en e1 e2 (by decide), cl_en e1 e31, en2, ml_lV h _ n1]
  rw [k_80_114]
  simp only [Hml, b1, b2, b3, b4, HF10, gd_t, decide_true, Bool.and_self, HQ, HZ, Ssp, Sky, SfV, SlV, inb_en e1 e2 (by decide), cl_en e1 e31, en2, cc_9_209_10, cc_9_203_10]
  have e81 : XM L xs 81 [.ref 8, .int (nI s), .int (en e), .int (en (m.P.1 e))] (ml h ((((m.ssp (m.sp + 1 + k)).sky (u1 m.ky n (m.ky e))).sfV (u1 m.fV n (m.fV e))).slV (u1 m.lV n (m.lV e)))) = _ := e81
  rw [e81]
  simp only [bV_s, gd_t, Hml, b1, b2, b3, b4, HF10, gd_t, decide_true, Bool.and_self, HQ, HZ, cc_9_203_10, e53]
  rfl
theorem m_78a {h : AH} (hb : MB h) (m : MS) {s n : Nat} (hs : s < 40) (hrt : m.rt s = n) (n1 : 1 ≤ n) (n2 : n ≤ 20002) (hBP : BP m.P) (hl : m.P.1 n = 0) :
    XM L xs 78 [.ref 8, .int (nI s)] (ml h m) = some (ml h (mRg m s n), none) := by
  obtain ⟨b1, b2, b3, b4⟩ := id hb
  have n31 : n < 2 ^ 31 := by omega
  have hs31 : s < 2 ^ 31 := by omega
  have en1 : n - 1 + 1 = n := by omega
  obtain ⟨bl, br, bu⟩ := hBP n
  have e53 := m_53 L xs hb m n1 n2
  have r31 : m.P.2.1 n < 2 ^ 31 := by omega
  rw [en_78, k_78_0]
  simp only [Hml, b1, b2, b3, b4, HF10, gd_t, decide_true, Bool.and_self, HQ, HZ, inb_nI hs (by decide), nI_clamp hs31, hrt, inb_en n1 n2 (by decide), cl_en n1 n31, en1, cc_9_203_10, e53, bV_s, hl, en_0]
  rw [if_neg (fun q => q trivial), k_78_32]
  simp only [Hml, b1, b2, b3, b4, HF10, gd_t, decide_true, Bool.and_self, HQ, HZ, inb_nI hs (by decide), nI_clamp hs31, ml_rt]
  rw [k_78_40]
  simp only [en_m1 r31]
  unfold mRg
  by_cases r0 : m.P.2.1 n = 0
  · rw [if_pos r0, k_78_54, if_pos r0]
    rfl
  · have r1 : 1 ≤ m.P.2.1 n := by omega
    rw [if_neg r0, k_78_46, if_neg r0]
    simp only [Hml, b1, b2, b3, b4, HF10, gd_t, decide_true, Bool.and_self, HQ, HZ, inb_en r1 br (by decide), cl_en r1 r31, ml_Pu0 h _ r1]
    rw [k_78_54]
    rfl
theorem m_78b {h : AH} (hb : MB h) (m : MS) {s n : Nat} (hs : s < 40) (hrt : m.rt s = n) (n1 : 1 ≤ n) (n2 : n ≤ 20002) (hBP : BP m.P) (hl : m.P.1 n ≠ 0) {S z : Nat → Nat} {m1 m2 : MS} (hm1 : m1 = (mLetN m n).sP ((mLetN m n).P.1, m.P.2.1, u1 m.P.2.2 (m.P.1 n) 0)) (hB1 : BP m1.P) (hw : WF m1.P S z) (hS : TN S) (tl : S (m.P.1 n) ≠ 0) {e k : Nat} (he : lR m1.P 20003 (m.P.1 n) = (e, k)) (hm2 : m2 = mUp (m1.ssp (m1.sp + k)) e) :
    XM L xs 78 [.ref 8, .int (nI s)] (ml h m) = some (ml h ((m2.sP (str m2.P e (m.P.2.1 n))).srt (u1 m2.rt s e)), none) := by
  obtain ⟨b1, b2, b3, b4⟩ := id hb
  have n31 : n < 2 ^ 31 := by omega
  have hs31 : s < 2 ^ 31 := by omega
  have en1 : n - 1 + 1 = n := by omega
  obtain ⟨bl, br, bu⟩ := hBP n
  have l31 : m.P.1 n < 2 ^ 31 := by omega
  have l1 : 1 ≤ m.P.1 n := by omega
  have e53 := m_53 L xs hb m n1 n2
  have te2 := lR_mem hw 20003 (m.P.1 n) tl
  rw [he] at te2
  have te3 : S e ≠ 0 := by
    have te2 : S e = S (m.P.1 n) := te2
    rw [te2]; exact tl
  have e1 : 1 ≤ e := Nat.pos_of_ne_zero (hw.n0 te3)
  have e2 := hS.2 e te3
  have e79 := m_79 L xs hb m1 (up := m1.P.2.2) (T := S) (z := z) hw hS tl
  rw [he] at e79
  have e70 := m_70 L xs hb (m1.ssp (m1.sp + k)) (S := S) (z := z) hw hS.2 hB1 te3
  rw [← hm2] at e70
  have e68 := m_68' L xs hb m2 e1 e2 br
  rw [en_78, k_78_0]
  simp only [Hml, b1, b2, b3, b4, HF10, gd_t, decide_true, Bool.and_self, HQ, HZ, inb_nI hs (by decide), nI_clamp hs31, hrt, inb_en n1 n2 (by decide), cl_en n1 n31, en1, cc_9_203_10, e53, bV_s, en_m1 l31]
  rw [if_pos hl, k_78_55]
  simp only [Hml, b1, b2, b3, b4, HF10, gd_t, decide_true, Bool.and_self, HQ, HZ, inb_en l1 bl (by decide), cl_en l1 l31, ml_Pu0 h _ l1]
  have em1 : ml h ((mLetN m n).sP ((mLetN m n).P.1, (mLetN m n).P.2.1, u1 (mLetN m n).P.2.2 (m.P.1 n) 0)) = ml h m1 := by rw [hm1]; rfl
  rw [em1, k_78_62]
  simp only [Hml, b1, b2, b3, b4, HF10, gd_t, decide_true, Bool.and_self, HQ, HZ, cc_9_206_10, e79, bI_s, cc_9_143_10, e70, bV_s, cc_9_137_10, e68, inb_nI hs (by decide), nI_clamp hs31, ml_rt]
  rw [k_78_91]
  rfl
end M80
