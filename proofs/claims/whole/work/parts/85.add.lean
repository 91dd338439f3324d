-- a value more at a node
theorem Chn_next {nx : Nat → Nat} : ∀ {l : List Nat} {a i : Nat}, Chn nx a l → i ∈ l → nx i = 0 ∨ nx i ∈ l
  | [], _, _, _, h => by cases h
  | e :: t, a, i, hc, h => by
    obtain ⟨h1, h2, h3⟩ := hc
    rcases List.mem_cons.mp h with q | q
    · rw [q]
      cases t with
      | nil => exact Or.inl h3
      | cons f t => exact Or.inr (by rw [h3.1]; exact List.mem_cons_of_mem _ (List.mem_cons_self ..))
    · rcases Chn_next h3 q with g | g
      · exact Or.inl g
      · exact Or.inr (List.mem_cons_of_mem _ g)
theorem getLastD_cons2 (a b : Nat) (t : List Nat) (x y : Nat) : (a :: b :: t).getLastD x = (b :: t).getLastD y := by
  rw [List.getLastD_cons, List.getLastD_cons, List.getLastD_cons]
theorem getLastD_in : ∀ (t : List Nat) (e : Nat), t.getLastD e ∈ e :: t
  | [], e => by rw [List.getLastD_nil]; exact List.mem_cons_self ..
  | f :: t, e => by
    rw [List.getLastD_cons]
    exact List.mem_cons_of_mem _ (getLastD_in t f)
theorem getLastD_mem {l : List Nat} (h : l ≠ []) : l.getLastD 0 ∈ l := by
  cases l with
  | nil => exact absurd rfl h
  | cons e t => rw [List.getLastD_cons]; exact getLastD_in t e
theorem Chn_snoc {nx : Nat → Nat} {i : Nat} (i0 : i ≠ 0) : ∀ {l : List Nat} {a : Nat}, l ≠ [] → l.Nodup → i ∉ l → Chn nx a l → Chn (u1 (u1 nx i 0) (l.getLastD 0) i) a (l ++ [i])
  | [], _, h, _, _, _ => absurd rfl h
  | [e], a, _, _, hi, hc => by
    obtain ⟨h1, h2, h3⟩ := hc
    refine ⟨h1, h2, ?_⟩
    show Chn (u1 (u1 nx i 0) e i) (u1 (u1 nx i 0) e i e) [i]
    rw [u1_s]
    refine ⟨rfl, i0, ?_⟩
    rw [u1_o _ _ (fun q => hi (by rw [q]; exact List.mem_cons_self ..)), u1_s]
    rfl
  | e :: f :: t, a, _, hn, hi, hc => by
    obtain ⟨h1, h2, h3⟩ := hc
    have hnd := List.nodup_cons.mp hn
    refine ⟨h1, h2, ?_⟩
    rw [getLastD_cons2 e f t 0 0]
    have ne1 : e ≠ (f :: t).getLastD 0 := by
      intro q
      apply hnd.1
      rw [q]
      exact getLastD_mem (List.cons_ne_nil f t)
    have ne2 : e ≠ i := fun q => hi (by rw [q]; exact List.mem_cons_self ..)
    show Chn _ (u1 (u1 nx i 0) ((f :: t).getLastD 0) i e) _
    rw [u1_o _ _ ne1, u1_o _ _ ne2]
    exact Chn_snoc i0 (List.cons_ne_nil f t) hnd.2 (fun q => hi (List.mem_cons_of_mem _ q)) h3
/-- the class's numbers are numbers of objects -/
theorem JJ.cld {m : MS} {c c' : CS} {d : DS} {B : AH} {T z : Nat → Nat} {V R : Nat → List Nat} {FN FI : List Nat} {ow : Nat → Nat} (hj : JJ m c d B T z V R FN FI ow) (e1 : c'.P = c.P) (e2 : c'.f1 = c.f1) (e3 : c'.l1 = c.l1) (e4 : c'.vx = c.vx) (e5 : c'.ro = c.ro) (e6 : c'.ar = c.ar) (hla : ∀ s, s < m.K → LZ T (c'.la s)) : Cld d c' := by
  obtain ⟨jb, js, jt, jr, jp, jd, jv, ji, jf, jw, jh, jz, jl⟩ := id hj
  have hw := jb.2.2.2.2.2
  have hit : ∀ a i, T a ≠ 0 → i ∈ V a → d.iid (d.vh i) = i := fun a i ha hi => by
    have o := ((jv a ha).2.2.2.2.2.2.2 i hi).1
    have n0 := jt.1.n0 ha
    have i0 : i ≠ 0 := fun q => by
      rw [q] at hi
      exact Chn_mem0 (jv a ha).2.1 hi
    exact (jd.2 i i0).mpr ⟨by rw [o]; exact n0, by rw [o]; exact jt.2.1.2 a ha⟩
  have hit0 : d.iid (d.vh 0) = 0 := by rw [hw.1.2.1, hw.1.2.2.2.2.1]
  refine ⟨fun x hx => ?_, fun x hx => ?_, fun x hx => ?_, fun i => ?_⟩
  · have ex := hw.2.1 x hx
    have ta : T (d.nid x) ≠ 0 := (jd.1 _ hx).mp (by rw [ex])
    obtain ⟨v1, v2, v3, v4, v5, v6, v7, v8⟩ := jv _ ta
    rw [e1, e2, e3]
    refine ⟨hj.hD _ (jt.1.lzl ta), hj.hD _ (jt.1.lzr ta), hj.hD _ (jt.1.lzu ta), ?_, ?_⟩
    · rw [v3]
      have := hj.f1 ta
      exact this.2.2.2.1
    · rw [v5, v4]
      exact hit _ _ ta (getLastD_mem v1)
  · have ex := hw.2.2.1 x hx
    have oi := (jd.2 _ hx).mp (by rw [ex])
    obtain ⟨t1, t2⟩ := ji.2.2.2.2.2.2 _ oi.1 oi.2
    obtain ⟨v1, v2, v3, v4, v5, v6, v7, v8⟩ := jv _ t1
    rw [e4, (v8 _ t2).2.2]
    rcases Chn_next v2 t2 with q | q
    · rw [q]; exact hit0
    · exact hit _ _ t1 q
  · have ex := hw.2.2.2 x hx
    have hs : d.sid x - 1 < m.K := (js.2.2.1 _).mp (by rw [show d.sid x - 1 + 1 = d.sid x from by omega, ex])
    rw [e5]
    exact ⟨hj.hD _ (hj.rz hs), hj.hD _ (hla _ hs)⟩
  · rw [e6]
    by_cases q : i < c.K
    · rw [js.2.1.2.1 i q]
      exact (js.2.2.1 i).mpr (by rw [js.1]; exact q)
    · rw [js.2.1.2.2 i (by omega), hw.1.2.2.1, hw.1.2.2.2.2.2]
theorem bVal_ext (B : AH) (v : Int32) : Ext B (bVal B v) ∧ nn (bVal B v) = nn B + 1 ∧ sl (bVal B v) = sl B + 2 ∧ tg (bVal B v) (nn B + 1) = 8 := by
  refine ⟨⟨Nat.le_succ _, fun x hx => ?_⟩, rfl, rfl, if_pos rfl⟩
  have q : ¬ x = nn B + 1 := by omega
  exact ⟨if_neg q, if_neg q, fun i => if_neg q, fun f => if_neg q⟩
theorem bVal_ml (B : AH) (m : MS) (v : Int32) (h : 32 ≤ nn B) : ml (bVal B v) m = bVal (ml B m) v := by
  unfold bVal
  rw [← wI_ml _ _ (show 32 < nn B + 1 by omega), ← mk_ml _ _ (show 32 < nn B + 1 by omega)]
  rfl
/-- a number for one more Value -/
theorem JD.ai {d : DS} {T ow : Nat → Nat} {i y a : Nat} (jd : JD d T ow) (hy : d.iid y = 0) (i0 : i ≠ 0) (hi : ow i = 0 ∨ ow i = 50000) (a0 : a ≠ 0) (a2 : a ≤ 20002) : JD (d.ai i y) T (u1 ow i a) := by
  refine ⟨jd.1, fun j j0 => ?_⟩
  obtain ⟨e1, e2, e3, e4, -⟩ := Hai d i y
  rw [e3, e4]
  by_cases q : j = i
  · subst q
    rw [u1_s, u1_s, u1_s]
    exact ⟨fun _ => ⟨a0, a2⟩, fun _ => rfl⟩
  · rw [u1_o _ _ q, u1_o _ _ q, ← jd.2 j j0]
    by_cases g : d.vh j = y
    · rw [g, u1_s, hy]
      exact ⟨fun h => absurd h.symm q, fun h => absurd h.symm j0⟩
    · rw [u1_o _ _ g]
theorem JB.ai {B B' : AH} {d : DS} {i y : Nat} (jb : JB B d) (x : Ext B B') (hy : y = nn B + 1) (hn : nn B + 1 ≤ nn B') (ht : tg B' y = 8) (i0 : i ≠ 0) (hi : d.iid (d.vh i) ≠ i) : JB B' (d.ai i y) := by
  obtain ⟨b1, b2, b3, b4, b5, b6⟩ := x.JB jb
  have b3' := jb.2.2.1
  obtain ⟨e1, e2, e3, e4, e5, e6⟩ := Hai d i y
  refine ⟨b1, b2, ⟨b3.1, by rw [e2]; exact b3.2.1, fun w hw => ?_, by rw [e6]; exact b3.2.2.2⟩, by rw [e2]; exact b4, fun w hw => ?_, b6.ai i0 (by omega) hi⟩
  · rw [e4] at hw
    by_cases q : w = y
    · omega
    · rw [u1_o _ _ q] at hw
      exact b3.2.2.1 w hw
  · rw [e4] at hw
    by_cases q : w = y
    · rw [q]; exact ht
    · rw [u1_o _ _ q] at hw
      exact b5 w hw
def cAd2 (c : CS) (s n i : Nat) (v : Int32) (e : Nat) : CS := (((cAdd c n i v).svs (u1 c.vs s (c.vs s + 1))).scn (c.cn + 1)).sE e
theorem HcAd2 (c : CS) (s n i : Nat) (v : Int32) (e : Nat) : (cAd2 c s n i v e).ck = c.ck ∧ (cAd2 c s n i v e).cc = c.cc ∧ (cAd2 c s n i v e).P = c.P ∧ (cAd2 c s n i v e).cz = c.cz ∧ (cAd2 c s n i v e).nv = u1 c.nv n (c.nv n + 1) ∧ (cAd2 c s n i v e).f1 = c.f1 ∧ (cAd2 c s n i v e).l1 = u1 c.l1 n i ∧ (cAd2 c s n i v e).vn = u1 c.vn i v ∧ (cAd2 c s n i v e).vx = u1 (u1 c.vx i 0) (c.l1 n) i ∧ (cAd2 c s n i v e).kd = c.kd ∧ (cAd2 c s n i v e).ro = c.ro ∧ (cAd2 c s n i v e).he = c.he ∧ (cAd2 c s n i v e).vs = u1 c.vs s (c.vs s + 1) ∧ (cAd2 c s n i v e).la = c.la ∧ (cAd2 c s n i v e).tl = c.tl ∧ (cAd2 c s n i v e).dp = c.dp ∧ (cAd2 c s n i v e).lg = c.lg ∧ (cAd2 c s n i v e).hy = c.hy ∧ (cAd2 c s n i v e).pa = c.pa ∧ (cAd2 c s n i v e).K = c.K ∧ (cAd2 c s n i v e).ar = c.ar ∧ (cAd2 c s n i v e).cn = c.cn + 1 := ⟨rfl, rfl, rfl, rfl, rfl, rfl, rfl, rfl, rfl, rfl, rfl, rfl, rfl, rfl, rfl, rfl, rfl, rfl, rfl, rfl, rfl, rfl⟩
theorem add_JJ {m : MS} {c : CS} {d : DS} {B : AH} {T z : Nat → Nat} {V R : Nat → List Nat} {FN FI : List Nat} {ow : Nat → Nat} (hj : JJ m c d B T z V R FN FI ow) {s n : Nat} (hs : s < m.K) (hk : m.kd s ≤ 1) (hn : T n = s + 1) (hE : m.E < 20000) (v : Int32) (e : Nat) :
    ∃ (V' : Nat → List Nat) (FI' : List Nat) (ow' : Nat → Nat), (V' n).length = (V n).length + 1 ∧ JJ (mAdd m n v.toInt64) (cAd2 c s n (iid m) v e) (d.ai (iid m) (nn B + 1)) (bVal B v) T z V' R FN FI' ow' := by
  obtain ⟨jb, js, jt, jr, jp, jd, jv, ji, jf, jw, jh, jz, jl⟩ := id hj
  obtain ⟨FI', ⟨n1, n2, n3⟩, n4, n5, n6, n7, n8, n9, n10, n11, n12, n13⟩ := item_new ji hE
  obtain ⟨i1, i2, i3, i4, i5, i6, i7⟩ := id ji
  have hw := jb.2.2.2.2.2
  have κ0 : s + 1 ≠ 0 := Nat.succ_ne_zero s
  have tn : T n ≠ 0 := by rw [hn]; exact κ0
  have n0 := jt.1.n0 tn
  have nb := jt.2.1.2 n tn
  obtain ⟨v1, v2, v3, v4, v5, v6, v7, v8⟩ := jv n tn
  obtain ⟨x1, x2, x3, x4⟩ := bVal_ext B v
  have hy0 : d.iid (nn B + 1) = 0 := by
    rcases Nat.eq_zero_or_pos (d.iid (nn B + 1)) with q | q
    · exact q
    · have := jb.2.2.1.2.2.1 (nn B + 1) (by omega); omega
  have hid : d.iid (d.vh (iid m)) ≠ iid m := fun q => by
    have := (jd.2 _ n1).mp q; omega
  have hlm : m.lV n ∈ V n := by rw [v4]; exact getLastD_mem v1
  have fn0 := (hj.f1 tn).2.1
  have hK := hj.K
  have nV : ∀ a, T a ≠ 0 → iid m ∉ V a := fun a ha q => by
    have o := ((jv a ha).2.2.2.2.2.2.2 _ q).1
    have := jt.2.1.2 a ha
    have := jt.1.n0 ha
    omega
  have nR : ∀ t, t < m.K → 4 ≤ m.kd t → iid m ∉ R t ∧ m.lV n ∉ R t := fun t ht hkt => by
    refine ⟨fun q => ?_, fun q => ?_⟩
    · have := (jw.1 t ht hkt).2.2.1 _ q
      omega
    · have := (jw.1 t ht hkt).2.2.1 _ q
      rw [(v8 _ hlm).1] at this
      omega
  have eadd : mAdd m n v.toInt64 = ((mItm m v.toInt64).snx (u1 (mItm m v.toInt64).nx (m.lV n) (iid m))).slV (u1 m.lV n (iid m)) := by
    unfold mAdd
    have g : ¬ (mItm m v.toInt64).fV n = 0 := fn0
    simp only [g, if_false]
    rfl
  rw [eadd]
  generalize hm' : ((mItm m v.toInt64).snx (u1 (mItm m v.toInt64).nx (m.lV n) (iid m))).slV (u1 m.lV n (iid m)) = m'
  have em : m'.kd = m.kd ∧ m'.rt = m.rt ∧ m'.pl = m.pl ∧ m'.nu = m.nu ∧ m'.ky = m.ky ∧ m'.P = m.P ∧ m'.cs = m.cs ∧ m'.fV = m.fV ∧ m'.lV = u1 m.lV n (iid m) ∧ m'.it = u1 m.it (iid m) v.toInt64 ∧ m'.nx = u1 (u1 m.nx (iid m) 0) (m.lV n) (iid m) ∧ m'.K = m.K ∧ m'.E = m.E + 1 ∧ m'.nm = m.nm ∧ m'.fn = m.fn ∧ m'.im = (if m.fi = 0 then m.im + 1 else m.im) ∧ m'.fi = (if m.fi = 0 then 0 else m.nx m.fi) ∧ m'.se = m.se := by
    rw [← hm']
    exact ⟨rfl, rfl, rfl, rfl, rfl, rfl, rfl, rfl, rfl, rfl, rfl, rfl, rfl, rfl, rfl, rfl, rfl, rfl⟩
  clear hm' eadd
  obtain ⟨m1, m2, m3, m4, m5, m6, m7, m8, m9, m10, m11, m12, m13, m14, m15, m16, m17, m18⟩ := em
  generalize hc' : cAd2 c s n (iid m) v e = c'
  have ec := HcAd2 c s n (iid m) v e
  rw [hc'] at ec
  clear hc'
  obtain ⟨c1, c2, c3, c4, c5, c6, c7, c8, c9, c10, c11, c12, c13, c14, c15, c16, c17, c18, c19, c20, c21, c22⟩ := ec
  have hnil : iid m ≠ m.lV n := fun q => nV n tn (by rw [q]; exact hlm)
  have nxo : ∀ j, j ≠ iid m → j ≠ m.lV n → m'.nx j = m.nx j := fun j g1 g2 => by rw [m11, u1_o _ _ g2, u1_o _ _ g1]
  have Vo : ∀ a, a ≠ n → u1 V n (V n ++ [iid m]) a = V a := fun a q => u1_o _ _ q
  have Vn : u1 V n (V n ++ [iid m]) n = V n ++ [iid m] := u1_s _ _ _
  have nlv : ∀ a, T a ≠ 0 → a ≠ n → m.lV n ∉ V a := fun a ha q g => q (by
    have o1 := ((jv a ha).2.2.2.2.2.2.2 _ g).1
    rw [(v8 _ hlm).1] at o1
    exact o1.symm)
  refine ⟨u1 V n (V n ++ [iid m]), FI', u1 ow (iid m) n, by rw [Vn, List.length_append]; rfl, jb.ai x1 rfl (by omega) x4 n1 hid, ?_, jt.cg m12 m1 c3, jr.cg m12 m1 m2 m3 c11 c3, jp.cg m6 m5 m1 c3 c1, jd.ai hy0 n1 n3 n0 nb, fun a ha => ?_, ?_, jf.cg m6 m15 m14, ?_, ?_, ?_, ?_⟩
  · have js' : JS m c (d.ai (iid m) (nn B + 1)) (bVal B v) := by
      refine ⟨js.1, js.2.1, js.2.2.1, fun s' hs' => ?_⟩
      obtain ⟨k1, k2, k3⟩ := js.2.2.2 s' hs'
      refine ⟨k1, k2, ?_⟩
      show tg (bVal B v) (d.sa (s' + 1)) = _
      rw [(x1.2 _ (jb.2.2.1.2.2.2 _ (by rw [(js.2.2.1 s').mpr hs']; exact Nat.succ_ne_zero s'))).1]
      exact k3
    exact js'.cg m12 m1 c20 c21 c10
  · by_cases q : a = n
    · subst q
      rw [Vn, m8, c6, m9, c7, c5, u1_s, u1_s, u1_s]
      refine ⟨by simp, ?_, v3, by simp, rfl, by rw [List.length_append, v6]; rfl, ?_, fun j hj' => ?_⟩
      · rw [m11, v4]
        exact Chn_snoc n1 v1 v7 (nV a tn) v2
      · rw [List.nodup_append]
        exact ⟨v7, List.nodup_cons.mpr ⟨by simp, List.nodup_nil⟩, fun x hx y hy e => nV a tn (by rw [List.mem_singleton] at hy; rw [← hy, ← e]; exact hx)⟩
      · rcases List.mem_append.mp hj' with g | g
        · have ne : j ≠ iid m := fun q => nV a tn (by rw [← q]; exact g)
          rw [u1_o _ _ ne, c8, u1_o _ _ ne, m10, u1_o _ _ ne, c9, m11, v5]
          refine ⟨(v8 j g).1, (v8 j g).2.1, ?_⟩
          by_cases q2 : j = m.lV a
          · rw [q2, u1_s, u1_s]
          · rw [u1_o _ _ q2, u1_o _ _ q2, u1_o _ _ ne, u1_o _ _ ne]
            exact (v8 j g).2.2
        · rw [List.mem_singleton] at g
          rw [g, u1_s, c8, u1_s, m10, u1_s, c9, m11, v5, u1_o _ _ hnil, u1_o _ _ hnil, u1_s, u1_s]
          exact ⟨rfl, (Int32.toInt32_toInt64 v).symm, rfl⟩
    · obtain ⟨y1, y2, y3, y4, y5, y6, y7, y8⟩ := jv a ha
      rw [Vo a q, m8, c6, m9, c7, c5, u1_o _ _ q, u1_o _ _ q, u1_o _ _ q]
      refine ⟨y1, ?_, y3, y4, y5, y6, y7, fun j hj' => ?_⟩
      · rw [m11]
        exact Chn_u (nlv a ha q) (Chn_u (nV a ha) y2)
      · have ne : j ≠ iid m := fun g => nV a ha (by rw [← g]; exact hj')
        have ne2 : j ≠ m.lV n := fun g => nlv a ha q (by rw [← g]; exact hj')
        rw [u1_o _ _ ne, c8, u1_o _ _ ne, m10, u1_o _ _ ne, c9, nxo j ne ne2, v5, u1_o _ _ ne2, u1_o _ _ ne]
        exact y8 j hj'
  · refine ⟨?_, n5, fun j hj' => ?_, ?_, ?_, fun j hj' => ?_, fun j h1 h2 => ?_⟩
    · rw [m11, m17]
      refine Chn_u (fun q => ?_) (n7 0)
      have := n6 _ q
      rw [(v8 _ hlm).1] at this
      omega
    · rw [u1_o _ _ (fun q => n4 (by rw [← q]; exact hj'))]
      exact n6 j hj'
    · rw [m16, m13]; exact n8
    · rw [m16]; exact n9
    · rw [m16]
      by_cases q : j = iid m
      · rw [q]; omega
      · rw [u1_o _ _ q] at hj'
        have := i6 j hj'
        omega
    · by_cases q : j = iid m
      · rw [q, u1_s, Vn]
        exact ⟨tn, List.mem_append_right _ (List.mem_singleton.mpr rfl)⟩
      · rw [u1_o _ _ q] at h1 h2 ⊢
        obtain ⟨g1, g2⟩ := i7 j h1 h2
        refine ⟨g1, ?_⟩
        by_cases q2 : ow j = n
        · rw [q2, Vn]
          rw [q2] at g2
          exact List.mem_append_left _ g2
        · rw [Vo _ q2]; exact g2
  · have jw' : JW m c (bVal B v) R (u1 ow (iid m) n) := by
      refine ⟨fun t ht hkt => ?_, jw.2⟩
      obtain ⟨w1, w2, w3, w4, w5, w6, w7, w8⟩ := jw.1 t ht hkt
      obtain ⟨g1, g2, g3, -⟩ := x1.2 _ w6.2.2.2
      exact ⟨w1, w2, fun j hj' => by rw [u1_o _ _ (fun q => (nR t ht hkt).1 (by rw [← q]; exact hj'))]; exact w3 j hj', w4, w5, ⟨by rw [g2]; exact w6.1, by rw [g1]; exact w6.2.1, w6.2.2.1, by omega⟩, w7, fun i hi => by rw [g3]; exact w8 i hi⟩
    refine ⟨fun t ht hkt => ?_, fun t u ht hu hkt hku => ?_⟩
    · rw [m12] at ht
      rw [m1] at hkt
      obtain ⟨w1, w2, w3, w4, w5, w6, w7, w8⟩ := jw'.1 t ht hkt
      unfold JWs
      rw [m2, m4, m3, c12, c19, m10, m11]
      refine ⟨Chn_u (nR t ht hkt).2 (Chn_u (nR t ht hkt).1 w1), w2, w3, w4, w5, w6, w7, fun i hi => ?_⟩
      rw [w8 i hi]
      have hm : (R t).getD (m.nu t - 1 - i) 0 ∈ R t := getD_mem (by omega)
      rw [u1_o _ _ (fun q => (nR t ht hkt).1 (by rw [← q]; exact hm))]
    · rw [m12] at ht hu
      rw [m1] at hkt hku
      rw [c19]
      exact jw'.2 t u ht hu hkt hku
  · unfold JH
    rw [m7, m18, m1, c2, c22]
    exact ⟨jh.1, fun a ha => Nat.le_succ_of_le (jh.2.1 a ha), fun a ha h2 => ⟨(jh.2.2.1 a ha h2).1, Nat.lt_succ_of_lt (jh.2.2.1 a ha h2).2⟩, jh.2.2.2⟩
  · unfold JZ
    rw [m12, m1, c12, c13, c17, c18, c3, c4]
    refine ⟨fun r hr => ?_, jz.2.1, fun a ha h2 => ?_⟩
    · obtain ⟨z1, z2, z3, z4⟩ := jz.1 r hr
      refine ⟨z1, fun h1 => ?_, z3, z4⟩
      have ef : (fun a => (u1 V n (V n ++ [iid m]) a).length) = u1 (fun a => (V a).length) n ((V n).length + 1) := by
        funext a
        by_cases q : a = n
        · rw [q, u1_s, u1_s, List.length_append]; rfl
        · rw [u1_o _ _ q, u1_o _ _ q]
      rw [ef]
      by_cases q : r = s
      · rw [q, u1_s, (jz.1 s hs).2.1 hk]
        have := Sm_upd jt.2.1 κ0 (fun a => (V a).length) (a := n) ((V n).length + 1) hn
        omega
      · rw [u1_o _ _ q, z2 h1]
        refine Sm_congr (s := r + 1) jt.2.1 (Nat.succ_ne_zero r) (fun a ha => ?_)
        rw [u1_o _ _ (fun g => by rw [g, hn] at ha; omega)]
    · rw [Vo a (fun q => by rw [q, hn, Nat.add_sub_cancel] at h2; omega)]
      exact jz.2.2 a ha h2
  · exact JL.cg (d := d.ai (iid m) (nn B + 1)) (m := m) (c := c) jl m12 m1 c14 c15 c16 c3 c1 c11
