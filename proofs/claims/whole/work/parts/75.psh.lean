-- a number comes to a row
def mPs1 (m : MS) (s : Nat) (v : Int64) (sp' pl' : Nat) : MS :=
  let m1 := (m.ssp sp').spl (u1 m.pl s pl')
  let m2 := mItm m1 v
  ((m2.snx (u1 m2.nx (iid m) (m.rt s))).srt (u1 m.rt s (iid m))).snu (u1 m.nu s (m.nu s + 1))
theorem mPsh_1 (m : MS) (s : Nat) (v : Int64) (sp' pl' : Nat) : mPsh m s v sp' pl' = mAct (mPs1 m s v sp' pl') s 3 (nI (prow (m.kd s) (m.nu s + 1) pl')) := rfl
/-- an item that is no value of a node changes -/
theorem JV.it {m m' : MS} {c : CS} {T : Nat → Nat} {V : Nat → List Nat} {ow : Nat → Nat} (jv : JV m c T V ow) {i x o : Nat} {v : Int64} (hi : ∀ a, T a ≠ 0 → i ∉ V a) (e1 : m'.nx = u1 m.nx i x) (e2 : m'.it = u1 m.it i v) (e3 : m'.fV = m.fV) (e4 : m'.lV = m.lV) : JV m' c T V (u1 ow i o) := by
  intro a ha
  obtain ⟨v1, v2, v3, v4, v5, v6, v7, v8⟩ := jv a ha
  have hia := hi a ha
  refine ⟨v1, ?_, by rw [e3]; exact v3, by rw [e4]; exact v4, by rw [e4]; exact v5, v6, v7, fun j hj => ?_⟩
  · rw [e1, e3]; exact Chn_u hia v2
  · have ne : j ≠ i := fun q => hia (by rw [← q]; exact hj)
    rw [e1, e2, u1_o _ _ ne, u1_o _ _ ne, u1_o _ _ ne]
    exact v8 j hj
theorem getD_mem {l : List Nat} {k : Nat} (h : k < l.length) : l.getD k 0 ∈ l := by
  rw [List.getD_eq_getElem?_getD, List.getElem?_eq_getElem h]
  exact List.getElem_mem h
theorem push_JJ {m : MS} {c : CS} {d : DS} {B B' : AH} {T z : Nat → Nat} {V R : Nat → List Nat} {FN FI : List Nat} {ow : Nat → Nat} (hj : JJ m c d B T z V R FN FI ow) {s : Nat} (hs : s < m.K) (hk : 4 ≤ m.kd s) (hE : m.E < 20000) (v : Int64) {sp' pl' y' : Nat} (σ : Nat → Int32) (ee : Nat)
    (F1 : JB B' d) (F0 : nn B ≤ nn B') (F2 : ∀ x, x ≤ nn B → tg B' x = tg B x ∧ ln B' x = ln B x) (F3 : ∀ t, t < m.K → 4 ≤ m.kd t → t ≠ s → (∀ i, eL B' (c.pa t) i = eL B (c.pa t) i) ∧ y' ≠ c.pa t) (F4 : ln B' y' = pl' ∧ tg B' y' = 21 ∧ 32 < y' ∧ y' ≤ nn B') (F5 : ∀ i, i < m.nu s → eL B' y' i = eL B (c.pa s) i) (F6 : eL B' y' (m.nu s) = v) (hp : m.nu s < pl' ∧ 4 ≤ pl' ∧ pl' ≤ 40000) :
    ∃ (R' : Nat → List Nat) (FI' : List Nat) (ow' : Nat → Nat), JJ (mPs1 m s v sp' pl') (((((c.she (u1 c.he s (c.he s + 1))).sst σ).spa (u1 c.pa s y')).scn (c.cn + 1)).sE ee) d B' T z V R' FN FI' ow' := by
  obtain ⟨jb, js, jt, jr, jp, jd, jv, ji, jf, jw, jh, jz, jl⟩ := id hj
  obtain ⟨FI', ⟨n1, n2, n3⟩, n4, n5, n6, n7, n8, n9, n10, n11, n12, n13⟩ := item_new ji hE
  obtain ⟨i1, i2, i3, i4, i5, i6, i7⟩ := id ji
  have hK := hj.K
  have eN : (mPs1 m s v sp' pl').nx = u1 m.nx (iid m) (m.rt s) := u1_u1 _ _ _ _
  have nV : ∀ a, T a ≠ 0 → iid m ∉ V a := fun a ha q => by
    have o := ((jv a ha).2.2.2.2.2.2.2 _ q).1
    have := jt.2.1.2 a ha
    have := jt.1.n0 ha
    omega
  have nR : ∀ t, t < m.K → 4 ≤ m.kd t → iid m ∉ R t := fun t ht hkt q => by
    have := (jw.1 t ht hkt).2.2.1 _ q
    omega
  have nos : ∀ s', s' < m.K → m.kd s' ≤ 3 → s' ≠ s := fun s' _ h' q => by rw [q] at h'; omega
  refine ⟨u1 R s (iid m :: R s), FI', u1 ow (iid m) (30000 + s), F1, ⟨js.1, js.2.1, js.2.2.1, fun s' hs' => ?_⟩, jt, fun s' hs' => ⟨fun h' => ?_, (jr s' hs').2⟩, jp, ⟨jd.1, fun j j0 => ?_⟩, JV.it (m := m) jv nV eN rfl rfl rfl, ?_, jf, ⟨fun t ht hkt => ?_, fun t u ht hu hkt hku e => ?_⟩, ?_, ?_, jl⟩
  · obtain ⟨k1, k2, k3⟩ := js.2.2.2 s' hs'
    refine ⟨k1, k2, ?_⟩
    rw [(F2 _ (jb.2.2.1.2.2.2 _ (by rw [(js.2.2.1 s').mpr hs']; exact Nat.succ_ne_zero s'))).1]
    exact k3
  · have ne := nos s' hs' h'
    have e1 : (mPs1 m s v sp' pl').rt s' = m.rt s' := u1_o _ _ ne
    have e2 : (mPs1 m s v sp' pl').pl s' = m.pl s' := u1_o _ _ ne
    rw [e1, e2]
    exact (jr s' hs').1 h'
  · by_cases q : j = iid m
    · subst q
      rw [u1_s]
      have := jd.2 _ n1
      exact ⟨fun g => by have := this.mp g; omega, fun g => by omega⟩
    · rw [u1_o _ _ q]
      exact jd.2 j j0
  · refine ⟨by rw [eN]; exact n7 _, n5, fun j hj' => ?_, n8, n9, fun j hj' => ?_, fun j h1 h2 => ?_⟩
    · rw [u1_o _ _ (fun q => n4 (by rw [← q]; exact hj'))]
      exact n6 j hj'
    · show 1 ≤ j ∧ j ≤ (if m.fi = 0 then m.im + 1 else m.im)
      by_cases q : j = iid m
      · rw [q]; omega
      · rw [u1_o _ _ q] at hj'
        have := i6 j hj'
        omega
    · by_cases q : j = iid m
      · rw [q, u1_s] at h2; omega
      · rw [u1_o _ _ q] at h1 h2 ⊢
        exact i7 j h1 h2
  · obtain ⟨w1, w2, w3, w4, w5, w6, w7, w8⟩ := jw.1 t ht hkt
    by_cases q : t = s
    · subst q
      have hni := nR t ht hkt
      have er : u1 R t (iid m :: R t) t = iid m :: R t := u1_s _ _ _
      have e1 : (mPs1 m t v sp' pl').rt t = iid m := u1_s _ _ _
      have e2 : (mPs1 m t v sp' pl').nu t = m.nu t + 1 := u1_s _ _ _
      have e3 : (mPs1 m t v sp' pl').pl t = pl' := u1_s _ _ _
      have e4 : (u1 c.he t (c.he t + 1)) t = c.he t + 1 := u1_s _ _ _
      have e5 : (u1 c.pa t y') t = y' := u1_s _ _ _
      have e6 : (mPs1 m t v sp' pl').it = u1 m.it (iid m) v := rfl
      refine ⟨?_, ?_, ?_, ?_, ?_, ?_, ?_, ?_⟩
      · rw [er, e1, eN]
        refine ⟨rfl, n1, ?_⟩
        rw [u1_s]
        exact Chn_u hni w1
      · rw [er]; exact List.nodup_cons.mpr ⟨hni, w2⟩
      · rw [er]
        intro j hj'
        rcases List.mem_cons.mp hj' with g | g
        · rw [g, u1_s]
        · rw [u1_o _ _ (fun q => hni (by rw [← q]; exact g))]
          exact w3 j g
      · rw [er, e2, List.length_cons, w4]
      · show u1 c.he t (c.he t + 1) t = _
        rw [e4, e2, w5]
      · show _ = ln B' (u1 c.pa t y' t) ∧ tg B' (u1 c.pa t y' t) = 21 ∧ 32 < u1 c.pa t y' t ∧ u1 c.pa t y' t ≤ nn B'
        rw [e5, e3]
        exact ⟨F4.1.symm, F4.2⟩
      · rw [e2, e3]; omega
      · rw [e2]
        intro i hi
        show eL B' (u1 c.pa t y' t) i = _
        rw [e5, er, e6]
        by_cases g : i = m.nu t
        · rw [g, F6, show m.nu t + 1 - 1 - m.nu t = 0 from by omega]
          exact (u1_s _ _ _).symm
        · rw [F5 i (by omega), w8 i (by omega), show m.nu t + 1 - 1 - i = (m.nu t - 1 - i) + 1 from by omega]
          have hm : (R t).getD (m.nu t - 1 - i) 0 ∈ R t := getD_mem (by omega)
          show m.it ((R t).getD (m.nu t - 1 - i) 0) = u1 m.it (iid m) v ((R t).getD (m.nu t - 1 - i) 0)
          rw [u1_o _ _ (fun q => hni (by rw [← q]; exact hm))]
    · have hni := nR t ht hkt
      have er : u1 R s (iid m :: R s) t = R t := u1_o _ _ q
      have e1 : (mPs1 m s v sp' pl').rt t = m.rt t := u1_o _ _ q
      have e2 : (mPs1 m s v sp' pl').nu t = m.nu t := u1_o _ _ q
      have e3 : (mPs1 m s v sp' pl').pl t = m.pl t := u1_o _ _ q
      have e4 : (u1 c.he s (c.he s + 1)) t = c.he t := u1_o _ _ q
      have e5 : (u1 c.pa s y') t = c.pa t := u1_o _ _ q
      have e6 : (mPs1 m s v sp' pl').it = u1 m.it (iid m) v := rfl
      have f2 := F2 _ w6.2.2.2
      refine ⟨?_, ?_, ?_, ?_, ?_, ?_, ?_, ?_⟩
      · rw [er, e1, eN]; exact Chn_u hni w1
      · rw [er]; exact w2
      · rw [er]
        intro j hj'
        rw [u1_o _ _ (fun q => hni (by rw [← q]; exact hj'))]
        exact w3 j hj'
      · rw [er, e2, w4]
      · show u1 c.he s (c.he s + 1) t = _
        rw [e4, e2, w5]
      · show _ = ln B' (u1 c.pa s y' t) ∧ tg B' (u1 c.pa s y' t) = 21 ∧ 32 < u1 c.pa s y' t ∧ u1 c.pa s y' t ≤ nn B'
        rw [e5, e3, f2.1, f2.2]
        exact ⟨w6.1, w6.2.1, w6.2.2.1, Nat.le_trans w6.2.2.2 F0⟩
      · rw [e2, e3]; exact w7
      · rw [e2]
        intro i hi
        show eL B' (u1 c.pa s y' t) i = _
        rw [e5, er, e6, (F3 t ht hkt q).1, w8 i hi]
        have hm : (R t).getD (m.nu t - 1 - i) 0 ∈ R t := getD_mem (by omega)
        rw [u1_o _ _ (fun q => hni (by rw [← q]; exact hm))]
  · have e : u1 c.pa s y' t = u1 c.pa s y' u := e
    by_cases q1 : t = s
    · by_cases q2 : u = s
      · rw [q1, q2]
      · rw [q1, u1_s, u1_o _ _ q2] at e
        exact absurd e (F3 u hu hku q2).2
    · by_cases q2 : u = s
      · rw [q2, u1_s, u1_o _ _ q1] at e
        exact absurd e.symm (F3 t ht hkt q1).2
      · rw [u1_o _ _ q1, u1_o _ _ q2] at e
        exact jw.2 t u ht hu hkt hku e
  · refine ⟨jh.1, fun a ha => ?_, fun a ha h2 => ⟨(jh.2.2.1 a ha h2).1, ?_⟩, jh.2.2.2⟩
    · show c.cc a ≤ c.cn + 1
      have := jh.2.1 a ha
      omega
    · show c.cc a < c.cn + 1
      have := (jh.2.2.1 a ha h2).2
      omega
  · refine ⟨fun s' hs' => ?_, jz.2⟩
    obtain ⟨z1, z2, z3, z4⟩ := jz.1 s' hs'
    refine ⟨fun h' => ?_, z2, z3, z4⟩
    show u1 c.he s (c.he s + 1) s' = _
    rw [u1_o _ _ (nos s' hs' h')]
    exact z1 h'
