-- a new node of a heap: the invariant
theorem WF.one {P : PT} {T z : Nat → Nat} (h : WF P T z) {x κ : Nat} (hx : T x = 0) (x0 : x ≠ 0) : WF (u1 P.1 x 0, u1 P.2.1 x 0, u1 P.2.2 x 0) (u1 T x κ) (u1 z x 1) := by
  refine ⟨by rw [u1_o _ _ (Ne.symm x0)]; exact h.1, by rw [u1_o _ _ (Ne.symm x0)]; exact h.2.1, fun n hn => ?_⟩
  by_cases q : n = x
  · subst q
    show WN (u1 P.1 n 0) (u1 P.2.1 n 0) (u1 P.2.2 n 0) (u1 T n κ) (u1 z n 1) n
    unfold WN
    rw [u1_s P.1, u1_s P.2.1, u1_s P.2.2, u1_s z, u1_o z _ (Ne.symm x0), h.2.1]
    exact ⟨fun g => absurd rfl g, fun g => absurd rfl g, fun g => absurd rfl g, fun _ => rfl, rfl⟩
  · have tn : T n ≠ 0 := by rw [u1_o _ _ q] at hn; exact hn
    obtain ⟨w1, w2, w3, w4, w5⟩ := h.2.2 n tn
    have nl : P.1 n ≠ x := fun g => by
      have := (w1 (by rw [g]; exact x0)).2
      rw [g, hx] at this
      exact tn this.symm
    have nr : P.2.1 n ≠ x := fun g => by
      have := (w2 (by rw [g]; exact x0)).2
      rw [g, hx] at this
      exact tn this.symm
    have nu : P.2.2 n ≠ x := fun g => by
      have := (w3 (by rw [g]; exact x0)).2
      rw [g, hx] at this
      exact tn this.symm
    show WN (u1 P.1 x 0) (u1 P.2.1 x 0) (u1 P.2.2 x 0) (u1 T x κ) (u1 z x 1) n
    unfold WN
    rw [u1_o P.1 _ q, u1_o P.2.1 _ q, u1_o P.2.2 _ q, u1_o T _ q, u1_o z _ q, u1_o P.2.2 _ nl, u1_o P.2.2 _ nr, u1_o T _ nl, u1_o T _ nr, u1_o T _ nu, u1_o P.1 _ nu, u1_o P.2.1 _ nu, u1_o z _ nl, u1_o z _ nr]
    exact ⟨w1, w2, w3, w4, w5⟩
set_option maxHeartbeats 4000000 in
theorem new_hp {m m' : MS} {c c' : CS} {d : DS} {B : AH} {T z z' : Nat → Nat} {V R : Nat → List Nat} {FN FI : List Nat} {ow : Nat → Nat} (hj : JJ m c d B T z V R FN FI ow) {s q : Nat} {k : Int64} (hs : s < m.K) (ks : 2 ≤ m.kd s ∧ m.kd s ≤ 3) (hE : m.E < 20000) (v : Int32)
    (em : m'.kd = m.kd ∧ m'.rt = u1 m.rt s q ∧ m'.pl = m.pl ∧ m'.nu = m.nu ∧ m'.ky = u1 m.ky (mid m) k ∧ m'.P.2.2 = u1 m.P.2.2 (mid m) 0 ∧ m'.cs = u1 m.cs (mid m) m.se ∧ m'.fV = u1 m.fV (mid m) (iid m) ∧ m'.lV = u1 m.lV (mid m) (iid m) ∧ m'.it = u1 m.it (iid m) v.toInt64 ∧ m'.nx = u1 m.nx (iid m) 0 ∧ m'.K = m.K ∧ m'.E = m.E + 1 ∧ m'.nm = (if m.fn = 0 then m.nm + 1 else m.nm) ∧ m'.fn = (if m.fn = 0 then 0 else m.P.1 m.fn) ∧ m'.im = (if m.fi = 0 then m.im + 1 else m.im) ∧ m'.fi = (if m.fi = 0 then 0 else m.nx m.fi) ∧ m'.se = m.se + 1)
    (ec : c'.ck = u1 c.ck (mid m) k ∧ c'.cc = u1 c.cc (mid m) c.cn ∧ c'.lg = c.lg ∧ c'.nv = u1 c.nv (mid m) 1 ∧ c'.f1 = u1 c.f1 (mid m) (iid m) ∧ c'.l1 = u1 c.l1 (mid m) (iid m) ∧ c'.vn = u1 c.vn (iid m) v ∧ c'.vx = u1 c.vx (iid m) 0 ∧ c'.kd = c.kd ∧ c'.ro = u1 c.ro s q ∧ c'.he = u1 c.he s (c.he s + 1) ∧ c'.vs = c.vs ∧ c'.la = c.la ∧ c'.tl = c.tl ∧ c'.dp = c.dp ∧ c'.pa = c.pa ∧ c'.K = c.K ∧ c'.ar = c.ar ∧ c'.cn = c.cn + 1)
    (ep : WF c'.P (u1 T (mid m) (s + 1)) z' ∧ BP m'.P ∧ (∀ a, u1 T (mid m) (s + 1) a = s + 1 → m'.P.1 a = c'.P.1 a ∧ m'.P.2.1 a = c'.P.2.1 a ∧ c'.cz a = z' a) ∧ (∀ a, u1 T (mid m) (s + 1) a ≠ s + 1 → m'.P.1 a = m.P.1 a ∧ m'.P.2.1 a = m.P.2.1 a ∧ z' a = z a) ∧ (∀ a, u1 T (mid m) (s + 1) a ≠ 0 → u1 T (mid m) (s + 1) a ≠ s + 1 → c'.P.1 a = c.P.1 a ∧ c'.P.2.1 a = c.P.2.1 a ∧ c'.P.2.2 a = c.P.2.2 a ∧ c'.cz a = c.cz a) ∧ (u1 T (mid m) (s + 1) q = s + 1 ∧ c'.P.2.2 q = 0) ∧ (∀ a, u1 T (mid m) (s + 1) a = s + 1 → c'.P.2.2 a = 0 → a = q) ∧ c'.hy s = Sm (u1 T (mid m) (s + 1)) (s + 1) (hv c'.P z') ∧ ∀ r, r ≠ s → c'.hy r = c.hy r) :
    ∃ (FN' FI' : List Nat), JJ m' c' ((d.ai (iid m) (nn B + 2)).an (mid m) (nn B + 1)) (bNod B k v c.cn) (u1 T (mid m) (s + 1)) z' (u1 V (mid m) [iid m]) R FN' FI' (u1 ow (iid m) (mid m)) := by
  obtain ⟨jb, js, jt, jr, jp, jd, jv, ji, jf, jw, jh, jz, jl⟩ := id hj
  obtain ⟨FI', ⟨n1, n2, n3⟩, n4, n5, n6, n7, n8, n9, n10, n11, n12, n13⟩ := item_new ji hE
  obtain ⟨FN', ⟨o1, o2, o3⟩, o4, o5, o6, o7, o8, o9, o10, o11, o12, o13⟩ := node_new hj hE
  obtain ⟨i1, i2, i3, i4, i5, i6, i7⟩ := id ji
  obtain ⟨m1, m2, m3, m4, m5, m6, m7, m8, m9, m10, m11, m12, m13, m14, m15, m16, m17, m18⟩ := em
  obtain ⟨c1, c2, c3, c5, c6, c7, c8, c9, c10, c11, c12, c13, c14, c15, c16, c19, c20, c21, c22⟩ := ec
  obtain ⟨p1, p2, p3, p4, p5, p6, p7, p8, p9⟩ := ep
  have hw := jb.2.2.2.2.2
  have hK := hj.K
  have κ0 : s + 1 ≠ 0 := Nat.succ_ne_zero s
  generalize hx : mid m = x at *
  generalize hi : iid m = i at *
  obtain ⟨x1, x2, x3, x4, x5⟩ := bNod_ext B k v c.cn
  have h32 := jb.2.2.1.1
  have nT : ∀ a, T a ≠ 0 → a ≠ x := fun a ha q => ha (by rw [q]; exact o3)
  have T' : ∀ a, T a ≠ 0 → u1 T x (s + 1) a = T a := fun a ha => u1_o _ _ (nT a ha)
  have Tx : u1 T x (s + 1) x = s + 1 := u1_s _ _ _
  have back : ∀ a, u1 T x (s + 1) a ≠ 0 → a ≠ x → T a ≠ 0 := fun a ha q => by rw [u1_o _ _ q] at ha; exact ha
  have nV : ∀ a, T a ≠ 0 → i ∉ V a := fun a ha q => by
    have o := ((jv a ha).2.2.2.2.2.2.2 _ q).1
    have := jt.2.1.2 a ha
    have := jt.1.n0 ha
    omega
  have nR : ∀ t, t < m.K → 4 ≤ m.kd t → i ∉ R t := fun t ht hkt q => by
    have := (jw.1 t ht hkt).2.2.1 _ q
    omega
  have hy1 : d.iid (nn B + 2) = 0 := by
    rcases Nat.eq_zero_or_pos (d.iid (nn B + 2)) with q | q
    · exact q
    · have := jb.2.2.1.2.2.1 (nn B + 2) (by omega); omega
  have hy2 : d.nid (nn B + 1) = 0 := by
    rcases Nat.eq_zero_or_pos (d.nid (nn B + 1)) with q | q
    · exact q
    · have := jb.2.2.1.2.1 (nn B + 1) (by omega); omega
  have hid : d.iid (d.vh i) ≠ i := fun q => by have := (jd.2 _ n1).mp q; omega
  have hnd : d.nid (d.ph x) ≠ x := fun q => (jd.1 _ o1).mp q o3
  have nes : ∀ a, u1 T x (s + 1) a ≠ s + 1 → a ≠ x := fun a ha g => ha (by rw [g]; exact Tx)
  have hTN : TN (u1 T x (s + 1)) := TN_u1 jt.2.1 o1 (by omega)
  have H4 := hp4 (m := m) (m' := m') (c := c) (c' := c') (T := T) (T' := u1 T x (s + 1)) (z := z) (z' := z') (V := V) (V' := u1 V x [i]) (s := s) (t := s) hs ks ks jt jr jp jz m12 m1 m3 hTN (fun r hr _ a => by
      by_cases g : a = x
      · rw [g, Tx, o3]
        exact ⟨fun h => by omega, fun h => by omega⟩
      · rw [u1_o _ _ g]) (fun g => absurd rfl g) p1 (fun a ha hne => by
      have ax := nes a hne
      obtain ⟨y1, y2, y3⟩ := p4 a hne
      obtain ⟨y4, y5, y6, y7⟩ := p5 a ha hne
      rw [m6, m5, c1, u1_o _ _ ax, u1_o _ _ ax, u1_o _ _ ax, u1_o _ _ ax]
      exact ⟨y4, y5, y6, y1, y2, rfl, rfl, rfl, y7, y3, rfl⟩) (fun a ha => by
      obtain ⟨y1, y2, y3⟩ := p3 a ha
      refine ⟨y1, y2, ?_, y3, ?_⟩
      · rw [m5, c1]
        by_cases g : a = x
        · rw [g, u1_s, u1_s]
        · rw [u1_o _ _ g] at ha
          rw [u1_o _ _ g, u1_o _ _ g]
          exact (jp.2 a (by rw [ha]; exact κ0)).2.2.1
      · by_cases g : a = x
        · rw [g, u1_s]; rfl
        · rw [u1_o _ _ g] at ha ⊢
          exact jz.2.2 a (by rw [ha]; exact κ0) (by rw [ha, Nat.add_sub_cancel]; exact ks.1)) p2 (by
      rw [m2, c11, c12, u1_s, u1_s, u1_s]
      refine ⟨rfl, fun _ => p6, p7, ?_, p8⟩
      rw [Sm_ins jt.2.1 κ0 _ o3 o1 (by omega), (jz.1 s hs).1 ks.2]
      omega) (fun g => absurd rfl g) (fun r hr _ => by
      rw [m2, c11, c12, c13, c3, u1_o _ _ hr, u1_o _ _ hr, u1_o _ _ hr]
      exact ⟨rfl, rfl, rfl, rfl, rfl, p9 r hr⟩)
  refine ⟨FN', FI', ?_, ?_, H4.1, H4.2.1, H4.2.2.1, ?_, fun a ha => ?_, ?_, ?_, ?_, ?_, H4.2.2.2, ?_⟩
  · have jb1 := (x1.JB jb).ai' (i := i) (y := nn B + 2) (by omega) (by omega) x5 n1 hid
    exact jb1.an (x := x) (y := nn B + 1) (by omega) (by omega) x4 o1 hnd
  · refine ⟨by rw [m12, c20]; exact js.1, by unfold AR; rw [c20, c21]; exact js.2.1, fun s' => ?_, fun s' hs' => ?_⟩
    · rw [m12]; exact js.2.2.1 s'
    · rw [m12] at hs'
      obtain ⟨k1, k2, k3⟩ := js.2.2.2 s' hs'
      rw [c10, m1]
      refine ⟨k1, k2, ?_⟩
      show tg (bNod B k v c.cn) (d.sa (s' + 1)) = _
      rw [(x1.2 _ (jb.2.2.1.2.2.2 _ (by rw [(js.2.2.1 s').mpr hs']; exact Nat.succ_ne_zero s'))).1]
      exact k3
  · exact (jd.ai hy1 n1 n3 o1 (by omega)).an hy2 o1 o3 κ0
  · by_cases q : a = x
    · subst q
      rw [u1_s, m8, c6, m9, c7, c5, u1_s, u1_s, u1_s, u1_s, u1_s, m11]
      refine ⟨by simp, ⟨rfl, n1, by rw [u1_s]; rfl⟩, rfl, rfl, rfl, rfl, List.nodup_cons.mpr ⟨by simp, List.nodup_nil⟩, fun j hj' => ?_⟩
      rw [List.mem_singleton] at hj'
      rw [hj', u1_s, c8, u1_s, m10, u1_s, c9, u1_s, u1_s]
      exact ⟨rfl, (Int32.toInt32_toInt64 v).symm, rfl⟩
    · have ta := back a ha q
      obtain ⟨v1, v2, v3, v4, v5, v6, v7, v8⟩ := jv a ta
      rw [u1_o _ _ q, m8, c6, m9, c7, c5, u1_o _ _ q, u1_o _ _ q, u1_o _ _ q, u1_o _ _ q, u1_o _ _ q, m11]
      refine ⟨v1, Chn_u (nV a ta) v2, v3, v4, v5, v6, v7, fun j hj' => ?_⟩
      have ne : j ≠ i := fun g => nV a ta (by rw [← g]; exact hj')
      rw [u1_o _ _ ne, c8, u1_o _ _ ne, m10, u1_o _ _ ne, c9, u1_o _ _ ne, u1_o _ _ ne]
      exact v8 j hj'
  · refine ⟨by rw [m11, m17]; exact n7 0, n5, fun j hj' => ?_, by rw [m16, m13]; exact n8, by rw [m16]; exact n9, fun j hj' => ?_, fun j h1 h2 => ?_⟩
    · rw [u1_o _ _ (fun q => n4 (by rw [← q]; exact hj'))]
      exact n6 j hj'
    · rw [m16]
      by_cases q : j = i
      · rw [q]; omega
      · rw [u1_o _ _ q] at hj'
        have := i6 j hj'
        omega
    · by_cases q : j = i
      · rw [q, u1_s, Tx, u1_s]
        exact ⟨κ0, List.mem_singleton.mpr rfl⟩
      · rw [u1_o _ _ q] at h1 h2 ⊢
        obtain ⟨t1, t2⟩ := i7 j h1 h2
        rw [T' _ t1, u1_o _ _ (nT _ t1)]
        exact ⟨t1, t2⟩
  · refine ⟨?_, o5, fun a ha => ?_, fun a h1 h2 => ?_, fun a ha => ?_, by rw [m14]; exact o11⟩
    · rw [m15]
      refine Chn_cg (fun y hy => ?_) o7
      have yx : y ≠ x := fun q => o4 (by rw [← q]; exact hy)
      refine (p4 y ?_).1
      rw [u1_o _ _ yx, (o6 y hy).1]
      exact Ne.symm κ0
    · rw [m14, u1_o _ _ (fun q => o4 (by rw [← q]; exact ha))]
      exact o6 a ha
    · rw [m14] at h2
      rcases o8 a h1 h2 with q | q | q
      · exact Or.inl (by rw [T' a q]; exact q)
      · exact Or.inl (by rw [q, Tx]; exact κ0)
      · exact Or.inr q
    · rw [m14]
      by_cases q : a = x
      · rw [q]; exact o9
      · exact o10 a (back a ha q)
  · refine ⟨fun t ht hkt => ?_, fun t u ht hu hkt hku => ?_⟩
    · rw [m12] at ht
      rw [m1] at hkt
      obtain ⟨w1, w2, w3, w4, w5, w6, w7, w8⟩ := jw.1 t ht hkt
      obtain ⟨e1, e2, e3, -⟩ := x1.2 _ w6.2.2.2
      have ts : t ≠ s := fun q => by rw [q] at hkt; omega
      unfold JWs
      rw [m2, m4, m3, c12, c19, m10, m11, u1_o _ _ ts, u1_o _ _ ts]
      refine ⟨Chn_u (nR t ht hkt) w1, w2, fun j hj' => by rw [u1_o _ _ (fun q => nR t ht hkt (by rw [← q]; exact hj'))]; exact w3 j hj', w4, w5, ⟨by rw [e2]; exact w6.1, by rw [e1]; exact w6.2.1, w6.2.2.1, by omega⟩, w7, fun j hj' => ?_⟩
      rw [e3, w8 j hj']
      have hm : (R t).getD (m.nu t - 1 - j) 0 ∈ R t := getD_mem (by omega)
      rw [u1_o _ _ (fun q => nR t ht hkt (by rw [← q]; exact hm))]
    · rw [m12] at ht hu
      rw [m1] at hkt hku
      rw [c19]
      exact jw.2 t u ht hu hkt hku
  · unfold JH
    rw [m7, m18, m1, c2, c22]
    refine ⟨fun a => ?_, fun a ha => ?_, fun a ha h2 => ?_, fun a e ha he h2 h3 => ?_⟩
    · by_cases g : a = x
      · rw [g, u1_s]; omega
      · rw [u1_o _ _ g]
        have := jh.1 a
        omega
    · by_cases g : a = x
      · rw [g, u1_s]; omega
      · rw [u1_o _ _ g]
        have := jh.2.1 a (back a ha g)
        omega
    · by_cases g : a = x
      · rw [g, u1_s, u1_s]; omega
      · rw [u1_o _ _ g] at h2
        rw [u1_o _ _ g, u1_o _ _ g]
        have := jh.2.2.1 a (back a ha g) h2
        omega
    · by_cases g : a = x
      · by_cases g2 : e = x
        · rw [g, g2, u1_s, u1_s]; omega
        · rw [u1_o _ _ g2] at h3
          rw [g, u1_s, u1_s, u1_o _ _ g2, u1_o _ _ g2]
          have := jh.2.2.1 e (back e he g2) h3
          omega
      · rw [u1_o _ _ g] at h2
        by_cases g2 : e = x
        · rw [g2, u1_s, u1_s, u1_o _ _ g, u1_o _ _ g]
          have := jh.2.2.1 a (back a ha g) h2
          omega
        · rw [u1_o _ _ g2] at h3
          rw [u1_o _ _ g, u1_o _ _ g, u1_o _ _ g2, u1_o _ _ g2]
          exact jh.2.2.2 a e (back a ha g) (back e he g2) h2 h3
  · refine jl.hp (m := m) (c := c) (d := d) (z := z) jt.1 m12 m1 (fun a ha _ => T' a ha) (fun a ha h => ?_) c14 c15 c16 (fun r hr h => ?_) (fun a ha h => ?_) ?_
    · have ax : a ≠ x := fun g => by rw [g, Tx, Nat.add_sub_cancel] at h; omega
      rw [u1_o _ _ ax]
    · rw [c11, u1_o _ _ (fun g => by rw [g] at h; omega)]
    · have ax := nT a ha
      have ne : u1 T x (s + 1) a ≠ s + 1 := fun g => by rw [T' a ha] at g; rw [g, Nat.add_sub_cancel] at h; omega
      obtain ⟨y4, y5, y6, -⟩ := p5 a (by rw [T' a ha]; exact ha) ne
      rw [c1, u1_o _ _ ax]
      exact ⟨y4, y5, y6, rfl, u1_o d.ph _ ax⟩
    · exact u1_o d.ph _ (Ne.symm o1)
