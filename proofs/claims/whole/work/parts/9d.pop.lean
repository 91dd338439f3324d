-- numbers let go; a heap's root goes: the invariant
theorem JJ.cb {m : MS} {c : CS} {d : DS} {B : AH} {T z : Nat → Nat} {V R : Nat → List Nat} {FN FI : List Nat} {ow : Nat → Nat} (hj : JJ m c d B T z V R FN FI ow) (d0 : DS) (c0 : CS) : JJ m c d (cl B d0 c0) T z V R FN FI ow := hj
theorem JB.dn {B : AH} {d : DS} (jb : JB B d) (a : Nat) : JB B (d.dn a) := by
  obtain ⟨b1, b2, b3, b4, b5, b6⟩ := jb
  have k : ∀ x, (d.dn a).nid x ≠ 0 → d.nid x ≠ 0 := fun x hx => by
    rw [(Hdn d a).2.1] at hx
    by_cases g : x = d.ph a
    · rw [g, u1_s] at hx; exact absurd rfl hx
    · rw [u1_o _ _ g] at hx; exact hx
  exact ⟨b1, b2, ⟨b3.1, fun x hx => b3.2.1 x (k x hx), b3.2.2.1, b3.2.2.2⟩, fun x hx => b4 x (k x hx), b5, b6.dn a⟩
theorem JB.di {B : AH} {d : DS} (jb : JB B d) (a : Nat) : JB B (d.di a) := by
  obtain ⟨b1, b2, b3, b4, b5, b6⟩ := jb
  have k : ∀ x, (d.di a).iid x ≠ 0 → d.iid x ≠ 0 := fun x hx => by
    rw [(Hdi d a).2.2.2.1] at hx
    by_cases g : x = d.vh a
    · rw [g, u1_s] at hx; exact absurd rfl hx
    · rw [u1_o _ _ g] at hx; exact hx
  exact ⟨b1, b2, ⟨b3.1, b3.2.1, fun x hx => b3.2.2.1 x (k x hx), b3.2.2.2⟩, b4, fun x hx => b5 x (k x hx), b6.di a⟩
theorem JD.dn {d : DS} {T ow : Nat → Nat} {a : Nat} (jd : JD d T ow) (a0 : a ≠ 0) (ha : T a ≠ 0) : JD (d.dn a) (u1 T a 0) ow := by
  have hda := (jd.1 a a0).mpr ha
  refine ⟨fun b b0 => ?_, jd.2⟩
  rw [(Hdn d a).1, (Hdn d a).2.1]
  by_cases q : b = a
  · rw [q, u1_s, u1_s]
    exact ⟨fun h => absurd h.symm a0, fun h => absurd rfl h⟩
  · rw [u1_o T _ q, ← jd.1 b b0]
    by_cases g : d.ph b = d.ph a
    · rw [g, u1_s, hda]
      exact ⟨fun h => absurd h.symm b0, fun h => absurd h.symm q⟩
    · rw [u1_o _ _ g]
theorem JD.di {d : DS} {T ow : Nat → Nat} {i : Nat} (jd : JD d T ow) (i0 : i ≠ 0) (h1 : ow i ≠ 0) (h2 : ow i ≤ 20002) : JD (d.di i) T (u1 ow i 50000) := by
  have hdi := (jd.2 i i0).mpr ⟨h1, h2⟩
  refine ⟨jd.1, fun j j0 => ?_⟩
  rw [(Hdi d i).2.2.1, (Hdi d i).2.2.2.1]
  by_cases q : j = i
  · rw [q, u1_s, u1_s]
    exact ⟨fun h => absurd h.symm i0, fun h => absurd h.2 (by omega)⟩
  · rw [u1_o ow _ q, ← jd.2 j j0]
    by_cases g : d.vh j = d.vh i
    · rw [g, u1_s, hdi]
      exact ⟨fun h => absurd h.symm j0, fun h => absurd h.symm q⟩
    · rw [u1_o _ _ g]
theorem cl_let (B : AH) (d : DS) (c : CS) (a i : Nat) : cl B d c = cl (cl B d c) ((d.dn a).di i) c := by
  have e1 := cl_dn B d c a
  have e2 := cl_di (cl B d c) (d.dn a) c i
  rw [← e1] at e2
  exact e2
/-- a root goes: sizes stay -/
theorem WF.dr {P : PT} {T z : Nat → Nat} (h : WF P T z) {n : Nat} (hn : T n ≠ 0) (hu : P.2.2 n = 0) : WF (P.1, P.2.1, u1 (u1 P.2.2 (P.1 n) 0) (P.2.1 n) 0) (u1 T n 0) z := by
  have ws := WS.dr (l := P.1) (r := P.2.1) (u := P.2.2) h.ws hn hu
  refine ⟨ws.1, h.2.1, fun x hx => ?_⟩
  obtain ⟨w1, w2, w3, w4⟩ := ws.2 x hx
  have xn : x ≠ n := fun g => by rw [g, u1_s] at hx; exact hx rfl
  have tx : T x ≠ 0 := by rw [u1_o _ _ xn] at hx; exact hx
  exact ⟨w1, w2, w3, w4, (h.2.2 x tx).2.2.2.2⟩
set_option maxHeartbeats 4000000 in
theorem pop_hp {m m' : MS} {c c' : CS} {d : DS} {B : AH} {T z z' : Nat → Nat} {V R : Nat → List Nat} {FN FI : List Nat} {ow : Nat → Nat} (hj : JJ m c d B T z V R FN FI ow) {s q a i : Nat} (hs : s < m.K) (ks : 2 ≤ m.kd s ∧ m.kd s ≤ 3) (ha : T a = s + 1) (hV : V a = [i])
    (em : m'.kd = m.kd ∧ m'.rt = u1 m.rt s q ∧ m'.pl = m.pl ∧ m'.nu = m.nu ∧ m'.ky = m.ky ∧ m'.P.2.2 = m.P.2.2 ∧ m'.cs = m.cs ∧ m'.fV = m.fV ∧ m'.lV = m.lV ∧ m'.it = m.it ∧ m'.nx = u1 m.nx i m.fi ∧ m'.K = m.K ∧ m'.E = m.E - 1 ∧ m'.nm = m.nm ∧ m'.fn = a ∧ m'.im = m.im ∧ m'.fi = i ∧ m'.se = m.se)
    (ec : c'.ck = c.ck ∧ c'.cc = c.cc ∧ c'.lg = c.lg ∧ c'.nv = c.nv ∧ c'.f1 = c.f1 ∧ c'.l1 = c.l1 ∧ c'.vn = c.vn ∧ c'.vx = c.vx ∧ c'.kd = c.kd ∧ c'.ro = u1 c.ro s q ∧ c'.he = u1 c.he s (c.he s - 1) ∧ c'.vs = c.vs ∧ c'.la = c.la ∧ c'.tl = c.tl ∧ c'.dp = c.dp ∧ c'.pa = c.pa ∧ c'.K = c.K ∧ c'.ar = c.ar ∧ c'.cn = c.cn)
    (ep : WF c'.P (u1 T a 0) z' ∧ BP m'.P ∧ (∀ b, u1 T a 0 b = s + 1 → m'.P.1 b = c'.P.1 b ∧ m'.P.2.1 b = c'.P.2.1 b ∧ c'.cz b = z' b) ∧ (∀ b, b ≠ a → u1 T a 0 b ≠ s + 1 → m'.P.1 b = m.P.1 b ∧ m'.P.2.1 b = m.P.2.1 b ∧ z' b = z b) ∧ m'.P.1 a = m.fn ∧ (∀ b, u1 T a 0 b ≠ 0 → u1 T a 0 b ≠ s + 1 → c'.P.1 b = c.P.1 b ∧ c'.P.2.1 b = c.P.2.1 b ∧ c'.P.2.2 b = c.P.2.2 b ∧ c'.cz b = c.cz b) ∧ (q ≠ 0 → u1 T a 0 q = s + 1 ∧ c'.P.2.2 q = 0) ∧ (∀ b, u1 T a 0 b = s + 1 → c'.P.2.2 b = 0 → b = q) ∧ c'.hy s = Sm (u1 T a 0) (s + 1) (hv c'.P z') ∧ ∀ r, r ≠ s → c'.hy r = c.hy r) :
    JJ m' c' ((d.dn a).di i) B (u1 T a 0) z' V R (a :: FN) (i :: FI) (u1 ow i 50000) := by
  obtain ⟨jb, js, jt, jr, jp, jd, jv, ji, jf, jw, jh, jz, jl⟩ := id hj
  obtain ⟨m1, m2, m3, m4, m5, m6, m7, m8, m9, m10, m11, m12, m13, m14, m15, m16, m17, m18⟩ := em
  obtain ⟨c1, c2, c3, c5, c6, c7, c8, c9, c10, c11, c12, c13, c14, c15, c16, c19, c20, c21, c22⟩ := ec
  obtain ⟨p1, p2, p3, p4, p4a, p5, p6, p7, p8, p9⟩ := ep
  have κ0 : s + 1 ≠ 0 := Nat.succ_ne_zero s
  have ta : T a ≠ 0 := by rw [ha]; exact κ0
  have a0 := jt.1.n0 ta
  have ab := jt.2.1.2 a ta
  obtain ⟨v1, v2, v3, v4, v5, v6, v7, v8⟩ := jv a ta
  have hi : i ∈ V a := by rw [hV]; exact List.mem_singleton.mpr rfl
  have oi : ow i = a := (v8 i hi).1
  have iw := item_let ji (i := i) (by rw [oi]; exact a0) (by rw [oi]; omega)
  have Ta : ∀ b, b ≠ a → u1 T a 0 b = T b := fun b hb => u1_o _ _ hb
  have back : ∀ b, u1 T a 0 b ≠ 0 → b ≠ a ∧ T b ≠ 0 := fun b hb => by
    have g : b ≠ a := fun g => by rw [g, u1_s] at hb; exact hb rfl
    rw [u1_o _ _ g] at hb
    exact ⟨g, hb⟩
  have nV : ∀ b, T b ≠ 0 → b ≠ a → i ∉ V b := fun b hb hne g => by
    have := ((jv b hb).2.2.2.2.2.2.2 i g).1
    rw [oi] at this
    exact hne this.symm
  have nR : ∀ t, t < m.K → 4 ≤ m.kd t → i ∉ R t := fun t ht hkt g => by
    have := (jw.1 t ht hkt).2.2.1 _ g
    omega
  have hTN : TN (u1 T a 0) := TN_u1 jt.2.1 a0 ab
  have H4 := hp4 (m := m) (m' := m') (c := c) (c' := c') (T := T) (T' := u1 T a 0) (z := z) (z' := z') (V := V) (V' := V) (s := s) (t := s) hs ks ks jt jr jp jz m12 m1 m3 hTN (fun r hr _ b => by
      by_cases g : b = a
      · rw [g, u1_s, ha]
        exact ⟨fun h => by omega, fun h => by omega⟩
      · rw [u1_o _ _ g]) (fun g => absurd rfl g) p1 (fun b hb hne => by
      obtain ⟨y1, y2, y3⟩ := p4 b (back b hb).1 hne
      obtain ⟨y4, y5, y6, y7⟩ := p5 b hb hne
      rw [m6, m5, c1]
      exact ⟨y4, y5, y6, y1, y2, rfl, rfl, rfl, y7, y3, rfl⟩) (fun b hb => by
      obtain ⟨y1, y2, y3⟩ := p3 b hb
      have tb := (back b (by rw [hb]; exact κ0)).2
      have eb : T b = s + 1 := by rw [← Ta b (back b (by rw [hb]; exact κ0)).1]; exact hb
      refine ⟨y1, y2, ?_, y3, ?_⟩
      · rw [m5, c1]
        exact (jp.2 b tb).2.2.1
      · exact jz.2.2 b tb (by rw [eb, Nat.add_sub_cancel]; exact ks.1)) p2 (by
      rw [m2, c11, c12, u1_s, u1_s, u1_s]
      refine ⟨rfl, p6, p7, ?_, p8⟩
      have := Sm_del jt.2.1 κ0 (fun _ => 1) ha
      rw [(jz.1 s hs).1 ks.2]
      omega) (fun g => absurd rfl g) (fun r hr _ => by
      rw [m2, c11, c12, c13, c3, u1_o _ _ hr, u1_o _ _ hr, u1_o _ _ hr]
      exact ⟨rfl, rfl, rfl, rfl, rfl, p9 r hr⟩)
  refine ⟨(jb.dn a).di i, ?_, H4.1, H4.2.1, H4.2.2.1, (jd.dn a0 ta).di (by omega) (by rw [oi]; exact a0) (by rw [oi]; exact ab), fun b hb => ?_, ?_, ?_, ?_, ?_, H4.2.2.2, ?_⟩
  · refine ⟨by rw [m12, c20]; exact js.1, by unfold AR; rw [c20, c21]; exact js.2.1, fun s' => ?_, fun s' hs' => ?_⟩
    · rw [m12]; exact js.2.2.1 s'
    · rw [m12] at hs'
      rw [c10, m1]
      exact js.2.2.2 s' hs'
  · obtain ⟨ba, tb⟩ := back b hb
    obtain ⟨w1, w2, w3, w4, w5, w6, w7, w8⟩ := jv b tb
    rw [m8, c6, m9, c7, c5, m11, c8, m10, c9]
    refine ⟨w1, Chn_u (nV b tb ba) w2, w3, w4, w5, w6, w7, fun j hj' => ?_⟩
    have ne : j ≠ i := fun g => nV b tb ba (by rw [← g]; exact hj')
    rw [u1_o _ _ ne, u1_o _ _ ne]
    exact w8 j hj'
  · obtain ⟨i1, i2, i3, i4, i5, i6, i7⟩ := ji
    refine ⟨by rw [m11, m17]; exact iw.2.1, iw.2.2.1, fun j hj' => ?_, by rw [m16, m13]; exact iw.2.2.2.1, by rw [m16]; exact i5, fun j hj' => ?_, fun j h1 h2 => ?_⟩
    · by_cases g : j = i
      · rw [g, u1_s]
      · rw [u1_o _ _ g]
        exact i3 j ((List.mem_cons.mp hj').resolve_left g)
    · rw [m16]
      by_cases g : j = i
      · rw [g]; exact i6 i (by rw [oi]; exact a0)
      · rw [u1_o _ _ g] at hj'
        exact i6 j hj'
    · have ji' : j ≠ i := fun g => by rw [g, u1_s] at h2; omega
      rw [u1_o _ _ ji'] at h1 h2 ⊢
      obtain ⟨t1, t2⟩ := i7 j h1 h2
      have na : ow j ≠ a := fun g => by
        rw [g, hV, List.mem_singleton] at t2
        exact ji' t2
      rw [u1_o _ _ na]
      exact ⟨t1, t2⟩
  · obtain ⟨f1, f2, f3, f4, f5, f6⟩ := jf
    have aF : a ∉ FN := fun g => ta (f3 a g).1
    refine ⟨?_, List.nodup_cons.mpr ⟨aF, f2⟩, fun b hb => ?_, fun b h1 h2 => ?_, fun b hb => ?_, by rw [m14]; exact f6⟩
    · rw [m15]
      refine ⟨rfl, a0, ?_⟩
      rw [p4a]
      refine Chn_cg (fun y hy => ?_) f1
      have ya : y ≠ a := fun g => aF (by rw [← g]; exact hy)
      refine (p4 y ya ?_).1
      rw [u1_o _ _ ya, (f3 y hy).1]
      exact Ne.symm κ0
    · rw [m14]
      rcases List.mem_cons.mp hb with g | g
      · rw [g, u1_s]; exact ⟨rfl, f5 a ta⟩
      · have ba : b ≠ a := fun e => aF (by rw [← e]; exact g)
        rw [u1_o _ _ ba]
        exact f3 b g
    · rw [m14] at h2
      by_cases g : b = a
      · exact Or.inr (by rw [g]; exact List.mem_cons_self)
      · rcases f4 b h1 h2 with e | e
        · exact Or.inl (by rw [u1_o _ _ g]; exact e)
        · exact Or.inr (List.mem_cons_of_mem _ e)
    · rw [m14]
      exact f5 b (back b hb).2
  · refine ⟨fun t ht hkt => ?_, fun t u ht hu hkt hku => ?_⟩
    · rw [m12] at ht
      rw [m1] at hkt
      obtain ⟨w1, w2, w3, w4, w5, w6, w7, w8⟩ := jw.1 t ht hkt
      have ts : t ≠ s := fun q => by rw [q] at hkt; omega
      unfold JWs
      rw [m2, m4, m3, c12, c19, m10, m11, u1_o _ _ ts, u1_o _ _ ts]
      refine ⟨Chn_u (nR t ht hkt) w1, w2, fun j hj' => by rw [u1_o _ _ (fun q => nR t ht hkt (by rw [← q]; exact hj'))]; exact w3 j hj', w4, w5, w6, w7, w8⟩
    · rw [m12] at ht hu
      rw [m1] at hkt hku
      rw [c19]
      exact jw.2 t u ht hu hkt hku
  · unfold JH
    rw [m7, m18, m1, c2, c22]
    refine ⟨jh.1, fun b hb => jh.2.1 b (back b hb).2, fun b hb h2 => ?_, fun b e hb he h2 h3 => ?_⟩
    · rw [Ta b (back b hb).1] at h2
      exact jh.2.2.1 b (back b hb).2 h2
    · rw [Ta b (back b hb).1] at h2
      rw [Ta e (back e he).1] at h3
      exact jh.2.2.2 b e (back b hb).2 (back e he).2 h2 h3
  · refine jl.hp (m := m) (c := c) (d := d) (z := z) jt.1 m12 m1 (fun b hb h => ?_) (fun b hb h => (Ta b (back b hb).1).symm) c14 c15 c16 (fun r hr h => ?_) (fun b hb h => ?_) rfl
    · refine Ta b (fun g => ?_)
      rw [g, ha, Nat.add_sub_cancel] at h
      omega
    · rw [c11, u1_o _ _ (fun g => by rw [g] at h; omega)]
    · have ba : b ≠ a := fun g => by rw [g, ha, Nat.add_sub_cancel] at h; omega
      have ne : u1 T a 0 b ≠ s + 1 := fun g => by rw [Ta b ba] at g; rw [g, Nat.add_sub_cancel] at h; omega
      obtain ⟨y4, y5, y6, -⟩ := p5 b (by rw [Ta b ba]; exact hb) ne
      rw [c1]
      exact ⟨y4, y5, y6, rfl, rfl⟩
