-- a new structure: the invariant
theorem JB.as {B : AH} {d : DS} {a y : Nat} (jb : JB B d) (hy : 32 < y) (hn : y ≤ nn B) (a0 : a ≠ 0) (ha : d.sid (d.sa a) ≠ a) : JB B (d.as a y) := by
  obtain ⟨b1, b2, b3, b4, b5, b6⟩ := jb
  refine ⟨b1, b2, ⟨b3.1, b3.2.1, b3.2.2.1, fun x hx => ?_⟩, b4, b5, b6.as a0 (by omega) ha⟩
  rw [(Has d a y).2.2.2.2.2] at hx
  by_cases g : x = y
  · omega
  · rw [u1_o _ _ g] at hx
    exact b3.2.2.2 x hx
set_option maxHeartbeats 4000000 in
theorem make_JJ {m m' : MS} {c c' : CS} {d : DS} {B B1 : AH} {T z : Nat → Nat} {V R : Nat → List Nat} {FN FI : List Nat} {ow : Nat → Nat} (hj : JJ m c d B T z V R FN FI ow) {k y p n : Nat} (hn : m.K = n) (hK : n < 40) (hk : k ≤ 5) (x : Ext B B1) (hy : nn B < y ∧ y ≤ nn B1) (ty : tg B1 y = tgS k) (hp : 4 ≤ k → ln B1 p = 4 ∧ tg B1 p = 21 ∧ nn B < p ∧ p ≤ nn B1)
    (em : m'.kd = u1 m.kd n k ∧ m'.rt = u1 m.rt n 0 ∧ m'.pl = u1 m.pl n (if 4 ≤ k then 4 else 0) ∧ m'.nu = u1 m.nu n 0 ∧ m'.ky = m.ky ∧ m'.P = m.P ∧ m'.cs = m.cs ∧ m'.fV = m.fV ∧ m'.lV = m.lV ∧ m'.it = m.it ∧ m'.nx = m.nx ∧ m'.K = n + 1 ∧ m'.E = m.E ∧ m'.nm = m.nm ∧ m'.fn = m.fn ∧ m'.im = m.im ∧ m'.fi = m.fi ∧ m'.se = m.se)
    (ec : (c'.kd = u1 c.kd n k ∧ c'.ro = u1 c.ro n 0 ∧ c'.he = u1 c.he n 0 ∧ c'.vs = u1 c.vs n 0 ∧ c'.la = u1 c.la n 0 ∧ c'.tl = u1 c.tl n 0 ∧ c'.dp = u1 c.dp n 0 ∧ c'.lg = u1 c.lg n 0 ∧ c'.hy = u1 c.hy n 0 ∧ c'.pa = u1 c.pa n p) ∧ c'.ck = c.ck ∧ c'.cc = c.cc ∧ c'.P = c.P ∧ c'.cz = c.cz ∧ c'.nv = c.nv ∧ c'.f1 = c.f1 ∧ c'.l1 = c.l1 ∧ c'.vn = c.vn ∧ c'.vx = c.vx ∧ c'.K = n + 1 ∧ c'.ar = u1 c.ar n (n + 1) ∧ c'.cn = c.cn) :
    JJ m' c' (d.as (n + 1) y) B1 T z V (u1 R n []) FN FI ow := by
  obtain ⟨jb, js, jt, jr, jp, jd, jv, ji, jf, jw, jh, jz, jl⟩ := id hj
  obtain ⟨m1, m2, m3, m4, m5, m6, m7, m8, m9, m10, m11, m12, m13, m14, m15, m16, m17, m18⟩ := em
  obtain ⟨⟨c1, c2, c3, c4, c5, c6, c7, c8, c9, c10⟩, d1, d2, d3, d4, d5, d6, d7, d8, d9, d10, d11, d12⟩ := ec
  have h32 := jb.2.2.1.1
  have hcK : c.K = n := by rw [← js.1]; exact hn
  have sy : d.sid y = 0 := by
    rcases Nat.eq_zero_or_pos (d.sid y) with q | q
    · exact q
    · have := jb.2.2.1.2.2.2 y (by omega); omega
  have hsn : d.sid (d.sa (n + 1)) ≠ n + 1 := fun q => by
    have := (js.2.2.1 n).mp q
    omega
  have Tn : ∀ a, T a ≠ 0 → T a - 1 ≠ n ∧ T a ≠ n + 1 := fun a ha => by
    have := (jt.2.2 a ha).1
    omega
  have kT : ∀ a, T a ≠ 0 → u1 m.kd n k (T a - 1) = m.kd (T a - 1) := fun a ha => u1_o _ _ (Tn a ha).1
  have nol : ∀ a, T a ≠ n + 1 := fun a g => (Tn a (by rw [g]; exact Nat.succ_ne_zero n)).2 g
  have lt : ∀ r, r < n + 1 → r ≠ n → r < m.K := fun r h1 h2 => by omega
  refine ⟨(x.JB jb).as (by omega) hy.2 (Nat.succ_ne_zero n) hsn, ?_, ⟨by rw [d3]; exact jt.1, jt.2.1, fun a ha => ?_⟩, fun r hr => ?_, ⟨by rw [m6]; exact jp.1, fun a ha => ?_⟩, jd, ?_, ?_, ?_, ?_, ?_, ?_, ?_⟩
  · refine ⟨by rw [m12, d10], ?_, fun s => ?_, fun s hs => ?_⟩
    · unfold AR
      rw [d10, d11]
      refine ⟨by omega, fun i hi => ?_, fun i hi => ?_⟩
      · by_cases g : i = n
        · rw [g, u1_s]
        · rw [u1_o _ _ g]; exact js.2.1.2.1 i (by omega)
      · rw [u1_o _ _ (by omega)]; exact js.2.1.2.2 i (by omega)
    · rw [m12, (Has d (n + 1) y).2.2.2.2.1, (Has d (n + 1) y).2.2.2.2.2]
      by_cases g : s = n
      · rw [g, u1_s, u1_s]
        exact ⟨fun _ => by omega, fun _ => rfl⟩
      · rw [u1_o d.sa _ (by omega)]
        by_cases g2 : d.sa (s + 1) = y
        · rw [g2, u1_s]
          refine ⟨fun h => by omega, fun h => ?_⟩
          have := (js.2.2.1 s).mpr (by omega)
          rw [g2, sy] at this
          omega
        · rw [u1_o _ _ g2, js.2.2.1 s]
          omega
    · rw [m12] at hs
      rw [c1, m1, (Has d (n + 1) y).2.2.2.2.1]
      by_cases g : s = n
      · rw [g, u1_s, u1_s, u1_s]
        exact ⟨rfl, hk, ty⟩
      · rw [u1_o _ _ g, u1_o _ _ g, u1_o d.sa _ (by omega)]
        have hs' := lt s hs g
        obtain ⟨k1, k2, k3⟩ := js.2.2.2 s hs'
        refine ⟨k1, k2, ?_⟩
        rw [(x.2 _ (jb.2.2.1.2.2.2 _ (by rw [(js.2.2.1 s).mpr hs']; exact Nat.succ_ne_zero s))).1]
        exact k3
  · rw [m12, m1, kT a ha]
    have := jt.2.2 a ha
    exact ⟨by omega, this.2⟩
  · rw [m12] at hr
    rw [m1, m2, m3, c2, d3]
    by_cases g : r = n
    · rw [g, u1_s, u1_s, u1_s, u1_s]
      exact ⟨fun h => ⟨rfl, if_neg (by omega)⟩, fun _ => rfl, fun h => absurd rfl h, fun a ha _ => absurd ha (nol a)⟩
    · rw [u1_o _ _ g, u1_o _ _ g, u1_o _ _ g, u1_o _ _ g]
      exact jr r (lt r hr g)
  · rw [m6, d3, m5, d1, m1, kT a ha]
    exact jp.2 a ha
  · intro a ha
    rw [m8, d6, m9, d7, d5, m11, d8, m10, d9]
    exact jv a ha
  · unfold JI
    rw [m11, m17, m16, m13]
    exact ji
  · unfold JF
    rw [m6, m15, m14]
    exact jf
  · refine ⟨fun t ht hkt => ?_, fun t u ht hu hkt hku => ?_⟩
    · rw [m12] at ht
      rw [m1] at hkt
      unfold JWs
      rw [m2, m4, m3, c3, c10, m10, m11]
      by_cases g : t = n
      · rw [g, u1_s] at hkt
        obtain ⟨q1, q2, q3, q4⟩ := hp hkt
        rw [g, u1_s, u1_s, u1_s, u1_s, u1_s, u1_s, if_pos hkt]
        exact ⟨rfl, List.nodup_nil, fun i hi => (by cases hi), rfl, rfl, ⟨q1.symm, q2, by omega, q4⟩, ⟨by omega, by omega, by omega⟩, fun i hi => by omega⟩
      · rw [u1_o _ _ g] at hkt
        rw [u1_o _ _ g, u1_o _ _ g, u1_o _ _ g, u1_o _ _ g, u1_o _ _ g, u1_o _ _ g]
        obtain ⟨w1, w2, w3, w4, w5, w6, w7, w8⟩ := jw.1 t (lt t ht g) hkt
        obtain ⟨e1, e2, e3, -⟩ := x.2 _ w6.2.2.2
        exact ⟨w1, w2, w3, w4, w5, ⟨by rw [e2]; exact w6.1, by rw [e1]; exact w6.2.1, w6.2.2.1, Nat.le_trans w6.2.2.2 x.1⟩, w7, fun i hi => by rw [e3]; exact w8 i hi⟩
    · rw [m12] at ht hu
      rw [m1] at hkt hku
      rw [c10]
      by_cases g : t = n
      · by_cases g2 : u = n
        · intro _; rw [g, g2]
        · rw [u1_o _ _ g2] at hku
          rw [g, u1_s] at hkt
          rw [g, u1_s, u1_o _ _ g2]
          intro e
          have := (jw.1 u (lt u hu g2) hku).2.2.2.2.2.1.2.2.2
          have := (hp hkt).2.2.1
          omega
      · rw [u1_o _ _ g] at hkt
        by_cases g2 : u = n
        · rw [g2, u1_s] at hku
          rw [g2, u1_s, u1_o _ _ g]
          intro e
          have := (jw.1 t (lt t ht g) hkt).2.2.2.2.2.1.2.2.2
          have := (hp hku).2.2.1
          omega
        · rw [u1_o _ _ g2] at hku
          rw [u1_o _ _ g, u1_o _ _ g2]
          exact jw.2 t u (lt t ht g) (lt u hu g2) hkt hku
  · unfold JH
    rw [m7, m18, m1, d2, d12]
    refine ⟨jh.1, jh.2.1, fun a ha h2 => ?_, fun a e ha he h2 h3 => ?_⟩
    · rw [kT a ha] at h2
      exact jh.2.2.1 a ha h2
    · rw [kT a ha] at h2
      rw [kT e he] at h3
      exact jh.2.2.2 a e ha he h2 h3
  · unfold JZ
    rw [m12, m1, c3, c4, c8, c9, d3, d4]
    refine ⟨fun r hr => ?_, fun a ha h => ?_, fun a ha h => ?_⟩
    · by_cases g : r = n
      · rw [g, u1_s, u1_s, u1_s, u1_s, u1_s, Sm_none nol, Sm_none nol, Sm_none nol, Sm_none nol]
        exact ⟨fun _ => rfl, fun _ => rfl, fun _ => rfl, fun _ _ => rfl⟩
      · rw [u1_o _ _ g, u1_o _ _ g, u1_o _ _ g, u1_o _ _ g, u1_o _ _ g]
        exact jz.1 r (lt r hr g)
    · rw [kT a ha] at h
      exact jz.2.1 a ha h
    · rw [kT a ha] at h
      exact jz.2.2 a ha h
  · refine ⟨fun r hr h => ?_, fun r hr h => ?_, fun a ha h => ?_⟩
    · rw [m12] at hr
      rw [c5]
      by_cases g : r = n
      · rw [g, u1_s]
      · rw [m1, u1_o _ _ g] at h
        rw [u1_o _ _ g]
        exact jl.1 r (lt r hr g) h
    · rw [m12] at hr
      unfold JLs
      rw [c5, c6, c7, c2, d3, d1]
      by_cases g : r = n
      · rw [g, u1_s]
        exact fun q => absurd rfl q
      · rw [m1, u1_o _ _ g] at h
        rw [u1_o _ _ g, u1_o _ _ g, u1_o _ _ g, u1_o _ _ g]
        exact jl.2.1 r (lt r hr g) h
    · rw [m1, kT a ha] at h
      rw [d3, d1]
      exact jl.2.2 a ha h
