-- a new node with its first value: the invariant
theorem hang_old {P : PT} {T z : Nat → Nat} {κ n x : Nat} {lt : Bool} (hw : WF P T z) (κ0 : κ ≠ 0) (hx : T x = 0) (x0 : x ≠ 0) (hs : Slot P T κ n lt) : ∀ b j, T b ≠ 0 → upI (hang P n x lt) j b = upI P j b ∧ (upI P (j + 1) b ≠ 0 → ((hang P n x lt).1 (upI P (j + 1) b) = upI P j b → P.1 (upI P (j + 1) b) = upI P j b) ∧ upI P (j + 1) b ≠ x) := by
  obtain ⟨w1, w2, nx⟩ := hang_ws hw κ0 hx x0 hs
  intro b j hb
  refine ⟨upI_fr j b (fun i _ hi => hang_u P _ (fun q => by
    have := (upI_z hw i b hb hi).2
    rw [q, hx] at this
    exact hb this.symm)) (hw.n0 hb), fun hj => ?_⟩
  have t1 := (upI_z hw (j + 1) b hb hj).2
  have t0 : upI P j b ≠ 0 := by
    intro q
    apply hj
    have : ∀ (j x : Nat), x ≠ 0 → upI P j x = 0 → upI P (j + 1) x = 0 := by
      intro j
      induction j with
      | zero => intro x x0 h; exact absurd h x0
      | succ j ih2 =>
        intro x x0 h
        by_cases u : P.2.2 x = 0
        · exact upI_N P (j + 1) x u
        · rw [upI_S P j x u] at h
          rw [upI_S P (j + 1) x u]
          exact ih2 _ u h
    exact this j b (hw.n0 hb) q
  have t2 := (upI_z hw j b hb t0).2
  have nx1 : upI P (j + 1) b ≠ x := fun q => by rw [q, hx] at t1; exact hb t1.symm
  have nx2 : upI P j b ≠ x := fun q => by rw [q, hx] at t2; exact hb t2.symm
  refine ⟨?_, nx1⟩
  by_cases q : upI P (j + 1) b = n
  · have n0 : n ≠ 0 := by rw [← q]; exact hj
    rw [q, (hang_n P _ nx n0).1]
    cases lt
    · exact fun h => h
    · exact fun h => absurd h.symm nx2
  · rw [(hang_o P _ nx1 q).1]
    exact fun h => h
/-- a new node, whoever gets it -/
theorem node_new {m : MS} {c : CS} {d : DS} {B : AH} {T z : Nat → Nat} {V R : Nat → List Nat} {FN FI : List Nat} {ow : Nat → Nat} (hj : JJ m c d B T z V R FN FI ow) (hE : m.E < 20000) :
    ∃ FN' : List Nat, (mid m ≠ 0 ∧ mid m ≤ 20000 ∧ T (mid m) = 0) ∧ mid m ∉ FN' ∧ FN'.Nodup ∧ (∀ a, a ∈ FN' → T a = 0 ∧ a ≤ (if m.fn = 0 then m.nm + 1 else m.nm)) ∧ Chn m.P.1 (if m.fn = 0 then 0 else m.P.1 m.fn) FN' ∧ (∀ a, 1 ≤ a → a ≤ (if m.fn = 0 then m.nm + 1 else m.nm) → T a ≠ 0 ∨ a = mid m ∨ a ∈ FN') ∧ mid m ≤ (if m.fn = 0 then m.nm + 1 else m.nm) ∧ (∀ a, T a ≠ 0 → a ≤ (if m.fn = 0 then m.nm + 1 else m.nm)) ∧ (if m.fn = 0 then m.nm + 1 else m.nm) ≤ 20000 ∧ m.nm < 20002 ∧ m.fn ≤ 20002 := by
  obtain ⟨jb, js, jt, jr, jp, jd, jv, ji, jf, jw, jh, jz, jl⟩ := id hj
  obtain ⟨f1, f2, f3, f4, f5, f6⟩ := jf
  unfold mid
  by_cases f0 : m.fn = 0
  · rw [f0] at f1
    have hF := Chn_0 f1
    subst hF
    have hp := hj.pig (l := List.range' 1 m.nm) List.nodup_range' (fun a ha => by
      rw [List.mem_range'_1] at ha
      rcases f4 a ha.1 (by omega) with q | q
      · exact q
      · cases q)
    rw [List.length_range'] at hp
    simp only [f0, if_true]
    refine ⟨[], ⟨by omega, by omega, ?_⟩, (fun q => by cases q), List.nodup_nil, (fun a q => by cases q), rfl, fun a h1 h2 => ?_, Nat.le_refl _, fun a ha => by have := f5 a ha; omega, by omega, by omega, by omega⟩
    · rcases Nat.eq_zero_or_pos (T (m.nm + 1)) with q | q
      · exact q
      · have := f5 (m.nm + 1) (by omega); omega
    · by_cases q : a = m.nm + 1
      · exact Or.inr (Or.inl q)
      · rcases f4 a h1 (by omega) with g | g
        · exact Or.inl g
        · cases g
  · obtain ⟨t, rfl, ht⟩ := Chn_n0 f0 f1
    simp only [f0, if_false]
    have hm := f3 m.fn (List.mem_cons_self ..)
    have hnd := List.nodup_cons.mp f2
    refine ⟨t, ⟨f0, by omega, hm.1⟩, hnd.1, hnd.2, fun a q => f3 a (List.mem_cons_of_mem _ q), ht, fun a h1 h2 => ?_, hm.2, f5, f6, by omega, by omega⟩
    rcases f4 a h1 h2 with g | g
    · exact Or.inl g
    · rcases List.mem_cons.mp g with q | q
      · exact Or.inr (Or.inl q)
      · exact Or.inr (Or.inr q)
theorem JD.an {d : DS} {T ow : Nat → Nat} {x y κ : Nat} (jd : JD d T ow) (hy : d.nid y = 0) (x0 : x ≠ 0) (hx : T x = 0) (κ0 : κ ≠ 0) : JD (d.an x y) (u1 T x κ) ow := by
  refine ⟨fun a a0 => ?_, jd.2⟩
  obtain ⟨e1, e2, -⟩ := Han d x y
  rw [e1, e2]
  by_cases q : a = x
  · subst q
    rw [u1_s, u1_s, u1_s]
    exact ⟨fun _ => κ0, fun _ => rfl⟩
  · rw [u1_o _ _ q, u1_o _ _ q, ← jd.1 a a0]
    by_cases g : d.ph a = y
    · rw [g, u1_s, hy]
      exact ⟨fun h => absurd h.symm q, fun h => absurd h.symm a0⟩
    · rw [u1_o _ _ g]
theorem bNod_ext (B : AH) (k : Int64) (v : Int32) (n : Nat) : Ext B (bNod B k v n) ∧ nn (bNod B k v n) = nn B + 2 ∧ sl (bNod B k v n) = sl B + 11 ∧ tg (bNod B k v n) (nn B + 1) = 4 ∧ tg (bNod B k v n) (nn B + 2) = 8 := by
  refine ⟨⟨by show nn B ≤ nn B + 1 + 1; omega, fun x hx => ?_⟩, rfl, rfl, ?_, if_pos rfl⟩
  · have q1 : ¬ x = nn B + 1 := by omega
    have q2 : ¬ x = nn B + 1 + 1 := by omega
    refine ⟨?_, ?_, fun i => ?_, fun f => ?_⟩
    · show (if x = nn B + 1 + 1 then 8 else (if x = nn B + 1 then 4 else tg B x)) = tg B x
      rw [if_neg q2, if_neg q1]
    · show (if x = nn B + 1 + 1 then 0 else (if x = nn B + 1 then 0 else ln B x)) = ln B x
      rw [if_neg q2, if_neg q1]
    · show (if x = nn B + 1 + 1 then 0 else (if x = nn B + 1 then 0 else eL B x i)) = eL B x i
      rw [if_neg q2, if_neg q1]
    · show (if f = 32 then (if x = nn B + 1 then nn B + 1 + 1 else (if f = 31 then (if x = nn B + 1 then nn B + 1 + 1 else (if x = nn B + 1 + 1 then 0 else (if x = nn B + 1 then 0 else fR B f x))) else (if x = nn B + 1 + 1 then 0 else (if x = nn B + 1 then 0 else fR B f x)))) else (if f = 31 then (if x = nn B + 1 then nn B + 1 + 1 else (if x = nn B + 1 + 1 then 0 else (if x = nn B + 1 then 0 else fR B f x))) else (if x = nn B + 1 + 1 then 0 else (if x = nn B + 1 then 0 else fR B f x)))) = fR B f x
      simp only [q1, q2, if_false, ite_self]
  · show (if nn B + 1 = nn B + 1 + 1 then 8 else (if nn B + 1 = nn B + 1 then 4 else tg B (nn B + 1))) = 4
    rw [if_neg (by omega), if_pos rfl]
theorem bNod_ml (B : AH) (m : MS) (k : Int64) (v : Int32) (n : Nat) (h : 32 ≤ nn B) : ml (bNod B k v n) m = bNod (ml B m) k v n := by
  unfold bNod bVal
  rw [← wI_ml _ _ (show 32 < nn B + 1 by omega), ← wR_ml, ← wR_ml, ← wI_ml _ _ (show 32 < _ + 1 by show 32 < nn B + 1 + 1; omega), ← mk_ml _ _ (show 32 < _ + 1 by show 32 < nn B + 1 + 1; omega), ← wI_ml _ _ (show 32 < nn B + 1 by omega), ← wL_ml _ _ (show 32 < nn B + 1 by omega), ← wI_ml _ _ (show 32 < nn B + 1 by omega), ← mk_ml _ _ (show 32 < nn B + 1 by omega)]
  rfl
theorem JB.an {B : AH} {d : DS} {x y : Nat} (jb : JB B d) (hy : 32 < y) (hn : y ≤ nn B) (ht : tg B y = 4) (x0 : x ≠ 0) (hx : d.nid (d.ph x) ≠ x) : JB B (d.an x y) := by
  obtain ⟨b1, b2, b3, b4, b5, b6⟩ := jb
  obtain ⟨e1, e2, e3, e4, e5, e6⟩ := Han d x y
  refine ⟨b1, b2, ⟨b3.1, fun w hw => ?_, by rw [e4]; exact b3.2.2.1, by rw [e6]; exact b3.2.2.2⟩, fun w hw => ?_, by rw [e4]; exact b5, b6.an x0 (by omega) hx⟩
  · rw [e2] at hw
    by_cases q : w = y
    · omega
    · rw [u1_o _ _ q] at hw
      exact b3.2.1 w hw
  · rw [e2] at hw
    by_cases q : w = y
    · rw [q]; exact ht
    · rw [u1_o _ _ q] at hw
      exact b4 w hw
theorem JB.ai' {B : AH} {d : DS} {i y : Nat} (jb : JB B d) (hy : 32 < y) (hn : y ≤ nn B) (ht : tg B y = 8) (i0 : i ≠ 0) (hi : d.iid (d.vh i) ≠ i) : JB B (d.ai i y) := by
  obtain ⟨b1, b2, b3, b4, b5, b6⟩ := jb
  obtain ⟨e1, e2, e3, e4, e5, e6⟩ := Hai d i y
  refine ⟨b1, b2, ⟨b3.1, by rw [e2]; exact b3.2.1, fun w hw => ?_, by rw [e6]; exact b3.2.2.2⟩, by rw [e2]; exact b4, fun w hw => ?_, b6.ai i0 (by omega) hi⟩
  · rw [e4] at hw
    by_cases q : w = y
    · omega
    · rw [u1_o _ _ q] at hw
      exact b3.2.2.1 w hw
  · rw [e4] at hw
    by_cases q : w = y
    · rw [q]; exact ht
    · rw [u1_o _ _ q] at hw
      exact b5 w hw
set_option maxHeartbeats 4000000 in
theorem new_JJ {m m' : MS} {c c' : CS} {d : DS} {B : AH} {T z : Nat → Nat} {V R : Nat → List Nat} {FN FI : List Nat} {ow : Nat → Nat} (hj : JJ m c d B T z V R FN FI ow) {s n cm : Nat} {k : Int64} (hs : s < m.K) (hk : m.kd s ≤ 1) (hE : m.E < 20000) (v : Int32) (hsl : Slot c.P T (s + 1) n (decide (k < c.ck n))) (hro : n = 0 → c.ro s = 0) (hkn : n ≠ 0 → c.ck n ≠ k) (hdir : n ≠ 0 → Dir c.P c.ck k n) (hcm : cm ≤ c.cn)
    (em : m'.kd = m.kd ∧ m'.rt = (if n = 0 then u1 m.rt s (mid m) else m.rt) ∧ m'.pl = m.pl ∧ m'.nu = m.nu ∧ m'.ky = u1 m.ky (mid m) k ∧ m'.P = hang m.P n (mid m) (decide (k < c.ck n)) ∧ m'.cs = m.cs ∧ m'.fV = u1 m.fV (mid m) (iid m) ∧ m'.lV = u1 m.lV (mid m) (iid m) ∧ m'.it = u1 m.it (iid m) v.toInt64 ∧ m'.nx = u1 m.nx (iid m) 0 ∧ m'.K = m.K ∧ m'.E = m.E + 1 ∧ m'.nm = (if m.fn = 0 then m.nm + 1 else m.nm) ∧ m'.fn = (if m.fn = 0 then 0 else m.P.1 m.fn) ∧ m'.im = (if m.fi = 0 then m.im + 1 else m.im) ∧ m'.fi = (if m.fi = 0 then 0 else m.nx m.fi) ∧ m'.se = m.se)
    (ec : c'.ck = u1 c.ck (mid m) k ∧ c'.cc = u1 c.cc (mid m) cm ∧ c'.P = hang c.P n (mid m) (decide (k < c.ck n)) ∧ c'.nv = u1 c.nv (mid m) 1 ∧ c'.f1 = u1 c.f1 (mid m) (iid m) ∧ c'.l1 = u1 c.l1 (mid m) (iid m) ∧ c'.vn = u1 c.vn (iid m) v ∧ c'.vx = u1 c.vx (iid m) 0 ∧ c'.kd = c.kd ∧ c'.ro = (if n = 0 then u1 c.ro s (mid m) else c.ro) ∧ c'.he = u1 c.he s (c.he s + 1) ∧ c'.vs = u1 c.vs s (c.vs s + 1) ∧ c'.la = c.la ∧ c'.tl = c.tl ∧ c'.dp = c.dp ∧ c'.hy = c.hy ∧ c'.pa = c.pa ∧ c'.K = c.K ∧ c'.ar = c.ar ∧ c'.cn = c.cn + 1)
    (ez : (∀ a, T a ≠ 0 → T a ≠ s + 1 → c'.cz a = c.cz a) ∧ (m.kd s = 1 → ∀ a, u1 T (mid m) (s + 1) a = s + 1 → c'.cz a = zf (hang c.P n (mid m) (decide (k < c.ck n))) a) ∧ (∀ r, r ≠ s → c'.lg r = c.lg r) ∧ (m.kd s = 1 → c'.lg s = Sm (u1 T (mid m) (s + 1)) (s + 1) (fun a => Nat.log2 (zf (hang c.P n (mid m) (decide (k < c.ck n))) a)))) :
    ∃ (FN' FI' : List Nat), JJ m' c' ((d.ai (iid m) (nn B + 2)).an (mid m) (nn B + 1)) (bNod B k v cm) (u1 T (mid m) (s + 1)) (zf (hang c.P n (mid m) (decide (k < c.ck n)))) (u1 V (mid m) [iid m]) R FN' FI' (u1 ow (iid m) (mid m)) := by
  obtain ⟨jb, js, jt, jr, jp, jd, jv, ji, jf, jw, jh, jz, jl⟩ := id hj
  obtain ⟨FI', ⟨n1, n2, n3⟩, n4, n5, n6, n7, n8, n9, n10, n11, n12, n13⟩ := item_new ji hE
  obtain ⟨FN', ⟨o1, o2, o3⟩, o4, o5, o6, o7, o8, o9, o10, o11, o12, o13⟩ := node_new hj hE
  obtain ⟨i1, i2, i3, i4, i5, i6, i7⟩ := id ji
  obtain ⟨m1, m2, m3, m4, m5, m6, m7, m8, m9, m10, m11, m12, m13, m14, m15, m16, m17, m18⟩ := em
  obtain ⟨c1, c2, c3, c5, c6, c7, c8, c9, c10, c11, c12, c13, c14, c15, c16, c18, c19, c20, c21, c22⟩ := ec
  obtain ⟨y1, y2, y3, y4⟩ := ez
  have hw := jb.2.2.2.2.2
  have hK := hj.K
  have κ0 : s + 1 ≠ 0 := Nat.succ_ne_zero s
  generalize hx : mid m = x at *
  generalize hi : iid m = i at *
  generalize hlt : decide (k < c.ck n) = lt at *
  obtain ⟨g1, g2, nx⟩ := hang_ws jt.1 κ0 o3 o1 hsl
  have hwf := hang_wf jt.1 jt.2.1 κ0 o3 o1 (by omega) hsl
  obtain ⟨x1, x2, x3, x4, x5⟩ := bNod_ext B k v cm
  have h32 := jb.2.2.1.1
  have nT : ∀ a, T a ≠ 0 → a ≠ x := fun a ha q => ha (by rw [q]; exact o3)
  have T' : ∀ a, T a ≠ 0 → u1 T x (s + 1) a = T a := fun a ha => u1_o _ _ (nT a ha)
  have Tx : u1 T x (s + 1) x = s + 1 := u1_s _ _ _
  have back : ∀ a, u1 T x (s + 1) a ≠ 0 → a ≠ x → T a ≠ 0 := fun a ha q => by rw [u1_o _ _ q] at ha; exact ha
  have tn : n ≠ 0 → T n ≠ 0 := fun n0 => by rw [(hsl n0).1]; exact κ0
  have nV : ∀ a, T a ≠ 0 → i ∉ V a := fun a ha q => by
    have o := ((jv a ha).2.2.2.2.2.2.2 _ q).1
    have := jt.2.1.2 a ha
    have := jt.1.n0 ha
    omega
  have nR : ∀ t, t < m.K → 4 ≤ m.kd t → i ∉ R t := fun t ht hkt q => by
    have := (jw.1 t ht hkt).2.2.1 _ q
    omega
  have hy1 : d.iid (nn B + 2) = 0 := by
    rcases Nat.eq_zero_or_pos (d.iid (nn B + 2)) with q | q
    · exact q
    · have := jb.2.2.1.2.2.1 (nn B + 2) (by omega); omega
  have hy2 : d.nid (nn B + 1) = 0 := by
    rcases Nat.eq_zero_or_pos (d.nid (nn B + 1)) with q | q
    · exact q
    · have := jb.2.2.1.2.1 (nn B + 1) (by omega); omega
  have hid : d.iid (d.vh i) ≠ i := fun q => by have := (jd.2 _ n1).mp q; omega
  have hnd : d.nid (d.ph x) ≠ x := fun q => (jd.1 _ o1).mp q o3
  have zo : ∀ a, T a ≠ 0 → T a ≠ s + 1 → zf (hang c.P n x lt) a = z a := fun a ha hne => by
    refine zfr jt.1 hwf jt.2.1 (κ := T a) ha (fun b hb => ?_) (fun b hb => ?_) a rfl
    · have tb : T b ≠ 0 := by rw [hb]; exact ha
      have bn : b ≠ n := fun q => by
        have n0 : n ≠ 0 := by rw [← q]; exact jt.1.n0 tb
        rw [q, (hsl n0).1] at hb
        exact hne hb.symm
      exact ⟨(T' b tb).trans hb, (hang_o c.P lt (nT b tb) bn).1, (hang_o c.P lt (nT b tb) bn).2, hang_u c.P lt (nT b tb)⟩
    · by_cases q : b = x
      · rw [q, Tx] at hb; exact absurd hb.symm hne
      · rw [u1_o _ _ q] at hb; exact hb
  have hro2 : n = 0 → ∀ a, T a ≠ s + 1 := fun n0 => hj.emp hs (hro n0)
  refine ⟨FN', FI', ?_, ?_, ⟨?_, TN_u1 jt.2.1 o1 (by omega), fun a ha => ?_⟩, ?_, ⟨?_, fun a ha => ?_⟩, ?_, fun a ha => ?_, ?_, ?_, ?_, ?_, ?_, ?_⟩
  · have jb1 := (x1.JB jb).ai' (i := i) (y := nn B + 2) (by omega) (by omega) x5 n1 hid
    exact jb1.an (x := x) (y := nn B + 1) (by omega) (by omega) x4 o1 hnd
  · refine ⟨by rw [m12, c20]; exact js.1, by unfold AR; rw [c20, c21]; exact js.2.1, fun s' => ?_, fun s' hs' => ?_⟩
    · rw [m12]; exact js.2.2.1 s'
    · rw [m12] at hs'
      obtain ⟨k1, k2, k3⟩ := js.2.2.2 s' hs'
      rw [c10, m1]
      refine ⟨k1, k2, ?_⟩
      show tg (bNod B k v cm) (d.sa (s' + 1)) = _
      rw [(x1.2 _ (jb.2.2.1.2.2.2 _ (by rw [(js.2.2.1 s').mpr hs']; exact Nat.succ_ne_zero s'))).1]
      exact k3
  · rw [c3]; exact hwf
  · rw [m12, m1]
    by_cases q : a = x
    · rw [q, Tx, Nat.add_sub_cancel]; omega
    · rw [u1_o _ _ q] at ha ⊢
      exact jt.2.2 a ha
  · intro r hr
    rw [m12] at hr
    obtain ⟨r1, r2, r3, r4⟩ := jr r hr
    rw [m1, m2, m3, c11, c3]
    have rx : c.ro r ≠ 0 → c.ro r ≠ x := fun g => nT _ (by rw [(r3 g).1]; exact Nat.succ_ne_zero r)
    by_cases n0 : n = 0
    · rw [if_pos n0, if_pos n0]
      by_cases q : r = s
      · subst q
        rw [u1_s, u1_s]
        refine ⟨fun h => ⟨rfl, (r1 h).2⟩, fun h => by omega, fun _ => ⟨Tx, by rw [(hang_x c.P lt nx).2.2]; exact n0⟩, fun a ha hu => ?_⟩
        by_cases g : a = x
        · exact g
        · rw [u1_o _ _ g] at ha
          exact absurd ha (hro2 n0 a)
      · rw [u1_o _ _ q, u1_o _ _ q]
        refine ⟨r1, r2, fun h => ⟨?_, ?_⟩, fun a ha hu => ?_⟩
        · rw [T' _ (by rw [(r3 h).1]; exact Nat.succ_ne_zero r)]; exact (r3 h).1
        · rw [hang_u c.P lt (rx h)]; exact (r3 h).2
        · by_cases g : a = x
          · rw [g, Tx] at ha; omega
          · rw [u1_o _ _ g] at ha
            rw [hang_u c.P lt g] at hu
            exact r4 a ha hu
    · rw [if_neg n0, if_neg n0]
      refine ⟨r1, r2, fun h => ⟨?_, ?_⟩, fun a ha hu => ?_⟩
      · rw [T' _ (by rw [(r3 h).1]; exact Nat.succ_ne_zero r)]; exact (r3 h).1
      · rw [hang_u c.P lt (rx h)]; exact (r3 h).2
      · by_cases g : a = x
        · rw [g, (hang_x c.P lt nx).2.2] at hu; exact absurd hu n0
        · rw [u1_o _ _ g] at ha
          rw [hang_u c.P lt g] at hu
          exact r4 a ha hu
  · rw [m6]
    have hnb : n ≤ 20002 := by
      by_cases n0 : n = 0
      · omega
      · exact jt.2.1.2 n (tn n0)
    have e : hang m.P n x lt = (if n ≠ 0 ∧ lt = true then u1 (u1 m.P.1 x 0) n x else u1 m.P.1 x 0, if n ≠ 0 ∧ lt = false then u1 (u1 m.P.2.1 x 0) n x else u1 m.P.2.1 x 0, u1 m.P.2.2 x n) := rfl
    rw [e]
    refine BP_mk ?_ ?_ (u1_le (fun a => (jp.1 a).2.2) hnb)
    · split
      · exact u1_le (u1_le (fun a => (jp.1 a).1) (by omega)) (by omega)
      · exact u1_le (fun a => (jp.1 a).1) (by omega)
    · split
      · exact u1_le (u1_le (fun a => (jp.1 a).2.1) (by omega)) (by omega)
      · exact u1_le (fun a => (jp.1 a).2.1) (by omega)
  · rw [m6, c3, m5, c1, m1]
    by_cases q : a = x
    · rw [q, (hang_x m.P lt nx).1, (hang_x m.P lt nx).2.1, (hang_x m.P lt nx).2.2, (hang_x c.P lt nx).1, (hang_x c.P lt nx).2.1, (hang_x c.P lt nx).2.2, u1_s, u1_s]
      exact ⟨rfl, rfl, rfl, fun _ => rfl⟩
    · have ta := back a ha q
      have p := jp.2 a ta
      rw [hang_u m.P lt q, hang_u c.P lt q, u1_o _ _ q, u1_o _ _ q, T' a ta]
      by_cases g : a = n
      · have n0 : n ≠ 0 := by rw [← g]; exact jt.1.n0 ta
        rw [g] at p ⊢
        rw [(hang_n m.P lt nx n0).1, (hang_n m.P lt nx n0).2, (hang_n c.P lt nx n0).1, (hang_n c.P lt nx n0).2]
        cases lt
        · exact ⟨p.1, rfl, p.2.2⟩
        · exact ⟨rfl, p.2.1, p.2.2⟩
      · rw [(hang_o m.P lt q g).1, (hang_o m.P lt q g).2, (hang_o c.P lt q g).1, (hang_o c.P lt q g).2]
        exact p
  · exact (jd.ai hy1 n1 n3 o1 (by omega)).an hy2 o1 o3 κ0
  · by_cases q : a = x
    · subst q
      rw [u1_s, m8, c6, m9, c7, c5, u1_s, u1_s, u1_s, u1_s, u1_s, m11]
      refine ⟨by simp, ⟨rfl, n1, by rw [u1_s]; rfl⟩, rfl, rfl, rfl, rfl, List.nodup_cons.mpr ⟨by simp, List.nodup_nil⟩, fun j hj' => ?_⟩
      rw [List.mem_singleton] at hj'
      rw [hj', u1_s, c8, u1_s, m10, u1_s, c9, u1_s, u1_s]
      exact ⟨rfl, (Int32.toInt32_toInt64 v).symm, rfl⟩
    · have ta := back a ha q
      obtain ⟨v1, v2, v3, v4, v5, v6, v7, v8⟩ := jv a ta
      rw [u1_o _ _ q, m8, c6, m9, c7, c5, u1_o _ _ q, u1_o _ _ q, u1_o _ _ q, u1_o _ _ q, u1_o _ _ q, m11]
      refine ⟨v1, Chn_u (nV a ta) v2, v3, v4, v5, v6, v7, fun j hj' => ?_⟩
      have ne : j ≠ i := fun g => nV a ta (by rw [← g]; exact hj')
      rw [u1_o _ _ ne, c8, u1_o _ _ ne, m10, u1_o _ _ ne, c9, u1_o _ _ ne, u1_o _ _ ne]
      exact v8 j hj'
  · refine ⟨by rw [m11, m17]; exact n7 0, n5, fun j hj' => ?_, by rw [m16, m13]; exact n8, by rw [m16]; exact n9, fun j hj' => ?_, fun j h1 h2 => ?_⟩
    · rw [u1_o _ _ (fun q => n4 (by rw [← q]; exact hj'))]
      exact n6 j hj'
    · rw [m16]
      by_cases q : j = i
      · rw [q]; omega
      · rw [u1_o _ _ q] at hj'
        have := i6 j hj'
        omega
    · by_cases q : j = i
      · rw [q, u1_s, Tx, u1_s]
        exact ⟨κ0, List.mem_singleton.mpr rfl⟩
      · rw [u1_o _ _ q] at h1 h2 ⊢
        obtain ⟨t1, t2⟩ := i7 j h1 h2
        rw [T' _ t1, u1_o _ _ (nT _ t1)]
        exact ⟨t1, t2⟩
  · refine ⟨?_, o5, fun a ha => ?_, fun a h1 h2 => ?_, fun a ha => ?_, by rw [m14]; exact o11⟩
    · rw [m6, m15]
      refine Chn_cg (fun y hy => ?_) o7
      have yx : y ≠ x := fun q => o4 (by rw [← q]; exact hy)
      have yn : y ≠ n := fun q => by
        have ty := (o6 y hy).1
        by_cases n0 : n = 0
        · exact Chn_mem0 o7 (by rw [← n0, ← q]; exact hy)
        · rw [q] at ty; exact tn n0 ty
      exact (hang_o m.P lt yx yn).1
    · rw [m14, u1_o _ _ (fun q => o4 (by rw [← q]; exact ha))]
      exact o6 a ha
    · rw [m14] at h2
      rcases o8 a h1 h2 with q | q | q
      · exact Or.inl (by rw [T' a q]; exact q)
      · exact Or.inl (by rw [q, Tx]; exact κ0)
      · exact Or.inr q
    · rw [m14]
      by_cases q : a = x
      · rw [q]; exact o9
      · exact o10 a (back a ha q)
  · refine ⟨fun t ht hkt => ?_, fun t u ht hu hkt hku => ?_⟩
    · rw [m12] at ht
      rw [m1] at hkt
      obtain ⟨w1, w2, w3, w4, w5, w6, w7, w8⟩ := jw.1 t ht hkt
      obtain ⟨e1, e2, e3, -⟩ := x1.2 _ w6.2.2.2
      have ts : t ≠ s := fun q => by rw [q] at hkt; omega
      have ert : m'.rt t = m.rt t := by
        rw [m2]
        split
        · exact u1_o _ _ ts
        · rfl
      unfold JWs
      rw [ert, m4, m3, c12, c19, m10, m11, u1_o _ _ ts]
      refine ⟨Chn_u (nR t ht hkt) w1, w2, fun j hj' => by rw [u1_o _ _ (fun q => nR t ht hkt (by rw [← q]; exact hj'))]; exact w3 j hj', w4, w5, ⟨by rw [e2]; exact w6.1, by rw [e1]; exact w6.2.1, w6.2.2.1, by omega⟩, w7, fun j hj' => ?_⟩
      rw [e3, w8 j hj']
      have hm : (R t).getD (m.nu t - 1 - j) 0 ∈ R t := getD_mem (by omega)
      rw [u1_o _ _ (fun q => nR t ht hkt (by rw [← q]; exact hm))]
    · rw [m12] at ht hu
      rw [m1] at hkt hku
      rw [c19]
      exact jw.2 t u ht hu hkt hku
  · have hp : ∀ a, u1 T x (s + 1) a ≠ 0 → 2 ≤ m.kd (u1 T x (s + 1) a - 1) → T a ≠ 0 ∧ a ≠ x ∧ u1 T x (s + 1) a = T a := fun a ha h2 => by
      have q : a ≠ x := fun q => by rw [q, Tx, Nat.add_sub_cancel] at h2; omega
      exact ⟨back a ha q, q, T' a (back a ha q)⟩
    unfold JH
    rw [m7, m18, m1, c2, c22]
    refine ⟨jh.1, fun a ha => ?_, fun a ha h2 => ?_, fun a e ha he h2 h3 => ?_⟩
    · by_cases q : a = x
      · rw [q, u1_s]; omega
      · rw [u1_o _ _ q]
        have := jh.2.1 a (back a ha q)
        omega
    · obtain ⟨e1, e2, e3⟩ := hp a ha h2
      rw [e3] at h2
      rw [u1_o _ _ e2]
      have := jh.2.2.1 a e1 h2
      omega
    · obtain ⟨e1, e2, e3⟩ := hp a ha h2
      obtain ⟨b1, b2, b3⟩ := hp e he h3
      rw [e3] at h2
      rw [b3] at h3
      rw [u1_o _ _ e2, u1_o _ _ b2]
      exact jh.2.2.2 a e e1 b1 h2 h3
  · unfold JZ
    rw [m12, m1, c12, c13, c18, c3]
    have Vo : ∀ r, r ≠ s → ∀ f f' : Nat → Nat, (∀ a, T a = r + 1 → f' a = f a) → Sm (u1 T x (s + 1)) (r + 1) f' = Sm T (r + 1) f := by
      intro r hr f f' he
      rw [Sm_T (T := T) (s := r + 1) (fun a => ?_) f']
      · exact Sm_congr (s := r + 1) jt.2.1 (Nat.succ_ne_zero r) he
      · by_cases q : a = x
        · rw [q, Tx, o3]
          exact ⟨fun g => by omega, fun g => by omega⟩
        · rw [u1_o _ _ q]
    have Vs : ∀ f f' : Nat → Nat, (∀ a, T a = s + 1 → f' a = f a) → Sm (u1 T x (s + 1)) (s + 1) f' = f' x + Sm T (s + 1) f := by
      intro f f' he
      rw [Sm_ins jt.2.1 κ0 f' o3 o1 (by omega), Sm_congr jt.2.1 κ0 he]
    refine ⟨fun r hr => ?_, fun a ha h1 => ?_, fun a ha h2 => ?_⟩
    · obtain ⟨z1, z2, z3, z4⟩ := jz.1 r hr
      by_cases q : r = s
      · subst q
        refine ⟨fun h => ?_, fun h => ?_, fun h => y4 h, fun h h' => by omega⟩
        · rw [u1_s, Vs (fun _ => 1) (fun _ => 1) (fun _ _ => rfl), z1 h]; omega
        · rw [u1_s, Vs (fun a => (V a).length) (fun a => (u1 V x [i] a).length) (fun a ha => by show (u1 V x [i] a).length = _; rw [u1_o _ _ (nT a (by rw [ha]; exact κ0))]), z2 h, u1_s]
          show _ = 1 + _
          omega
      · rw [u1_o _ _ q, u1_o _ _ q, y3 r q]
        refine ⟨fun h => by rw [Vo r q (fun _ => 1) (fun _ => 1) (fun _ _ => rfl)]; exact z1 h, fun h => ?_, fun h => ?_, fun h h' => ?_⟩
        · rw [Vo r q (fun a => (V a).length) (fun a => (u1 V x [i] a).length) (fun a ha => by show (u1 V x [i] a).length = _; rw [u1_o _ _ (nT a (by rw [ha]; exact Nat.succ_ne_zero r))])]
          exact z2 h
        · rw [Vo r q (fun a => Nat.log2 (z a)) (fun a => Nat.log2 (zf (hang c.P n x lt) a)) (fun a ha => by show Nat.log2 (zf _ a) = _; rw [zo a (by rw [ha]; exact Nat.succ_ne_zero r) (by rw [ha]; omega)])]
          exact z3 h
        · rw [Vo r q (hv c.P z) (hv (hang c.P n x lt) (zf (hang c.P n x lt))) (fun a ha => ?_)]
          · exact z4 h h'
          · have ta : T a ≠ 0 := by rw [ha]; exact Nat.succ_ne_zero r
            have ne : T a ≠ s + 1 := by rw [ha]; omega
            have an : a ≠ n := fun g => by
              have n0 : n ≠ 0 := by rw [← g]; exact jt.1.n0 ta
              rw [g] at ne
              exact ne (hsl n0).1
            unfold hv
            rw [zo a ta ne, (hang_o c.P lt (nT a ta) an).2]
            have : zf (hang c.P n x lt) (c.P.2.1 a) = z (c.P.2.1 a) := by
              by_cases r0 : c.P.2.1 a = 0
              · rw [r0, jt.1.2.1, hwf.2.1]
              · have := ((jt.1.2.2 a ta).2.1 r0).2
                exact zo _ (by rw [this]; exact ta) (by rw [this]; exact ne)
            rw [this]
    · by_cases q : a = x
      · rw [q, Tx, Nat.add_sub_cancel] at h1
        exact y2 (by omega) a (by rw [q]; exact Tx)
      · have ta := back a ha q
        rw [T' a ta] at h1
        by_cases g : T a = s + 1
        · exact y2 (by rw [g, Nat.add_sub_cancel] at h1; omega) a (by rw [T' a ta]; exact g)
        · rw [y1 a ta g, zo a ta g]
          exact jz.2.1 a ta h1
    · by_cases q : a = x
      · rw [q, u1_s]; rfl
      · have ta := back a ha q
        rw [T' a ta] at h2
        rw [u1_o _ _ q]
        exact jz.2.2 a ta h2
  · refine ⟨fun r hr h => ?_, fun r hr h => ?_, fun a ha h => ?_⟩
    · rw [m12] at hr
      rw [m1] at h
      rw [c14]
      exact jl.1 r hr h
    · rw [m12] at hr
      rw [m1] at h
      unfold JLs
      rw [c14, c15, c16, c11, c3, c1]
      intro l0
      obtain ⟨t1, t2, t, t3, t4, t5⟩ := jl.2.1 r hr h l0
      have tl0 : T (c.la r) ≠ 0 := by rw [t1]; exact Nat.succ_ne_zero r
      have hold := hang_old jt.1 κ0 o3 o1 hsl (c.la r)
      have tx : t ≠ x := fun q => by
        rcases t4 with g | g
        · rw [q] at g; exact o1 g
        · rw [q, o3] at g; exact absurd g.symm (Nat.succ_ne_zero r)
      refine ⟨by rw [T' _ tl0]; exact t1, ?_, t, ?_, ?_, ?_⟩
      · rw [(hold (c.dp r) tl0).1, t2]
        split
        · rename_i n0
          rw [u1_o _ _ (fun q => by rw [q] at t1; exact hro2 n0 _ t1)]
        · rfl
      · show c.tl r = u1 d.ph x (nn B + 1) t
        rw [u1_o _ _ tx]; exact t3
      · rcases t4 with g | g
        · exact Or.inl g
        · exact Or.inr (by rw [T' _ (by rw [g]; exact Nat.succ_ne_zero r)]; exact g)
      · intro j
        rw [(hold (j + 1) tl0).1, (hold j tl0).1]
        intro hj' hp
        obtain ⟨e1, e2⟩ := (hold j tl0).2 hj'
        rw [u1_o _ _ tx, u1_o _ _ e2]
        exact t5 j hj' (e1 hp)
    · rw [m1] at h
      rw [c3, c1]
      by_cases g : u1 T x (s + 1) a = s + 1
      · have k0 : m.kd s = 0 := by rw [g, Nat.add_sub_cancel] at h; exact h
        have := hang_ord (k := k) jt.1 κ0 o3 o1 (by rw [hlt]; exact hsl) (fun b hb => jl.2.2 b (by rw [hb]; exact κ0) (by rw [hb, Nat.add_sub_cancel]; exact k0)) hkn hdir a g
        rw [hlt] at this
        exact this
      · have ax : a ≠ x := fun q => g (by rw [q]; exact Tx)
        have ta := back a ha ax
        rw [T' a ta] at h g
        refine (jl.2.2 a ta h).fr jt.1 ta (fun b hb => ?_)
        have tb : T b ≠ 0 := by rw [hb]; exact ta
        have bn : b ≠ n := fun q => by
          have n0 : n ≠ 0 := by rw [← q]; exact jt.1.n0 tb
          rw [q, (hsl n0).1] at hb
          exact g hb.symm
        exact ⟨(hang_o c.P lt (nT b tb) bn).1, (hang_o c.P lt (nT b tb) bn).2, hang_u c.P lt (nT b tb), u1_o _ _ (nT b tb)⟩
