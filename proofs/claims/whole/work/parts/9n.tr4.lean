-- one or two trees have changed: the invariant
set_option maxHeartbeats 4000000 in
theorem tr4 {m m' : MS} {c c' : CS} {T T' z z' : Nat → Nat} {V V' : Nat → List Nat} {s t : Nat} (hs : s < m.K) (ht : t < m.K) (ks : m.kd s ≤ 1) (kt : m.kd t ≤ 1) (jt : JT m c T z) (jr : JR m c T) (jp : JP m c T) (jz : JZ m c T z V) (eK : m'.K = m.K) (ek : m'.kd = m.kd) (epl : m'.pl = m.pl)
    (hT' : TN T') (lab : ∀ r, r ≠ s → r ≠ t → ∀ a, T' a = r + 1 ↔ T a = r + 1) (hW : WF c'.P T' z')
    (fr : ∀ a, T' a ≠ 0 → T' a ≠ s + 1 → T' a ≠ t + 1 → c'.P.1 a = c.P.1 a ∧ c'.P.2.1 a = c.P.2.1 a ∧ c'.P.2.2 a = c.P.2.2 a ∧ m'.P.1 a = m.P.1 a ∧ m'.P.2.1 a = m.P.2.1 a ∧ m'.P.2.2 a = m.P.2.2 a ∧ m'.ky a = m.ky a ∧ c'.ck a = c.ck a ∧ c'.cz a = c.cz a ∧ z' a = z a ∧ V' a = V a)
    (own : ∀ a, (T' a = s + 1 ∨ T' a = t + 1) → m'.P.1 a = c'.P.1 a ∧ m'.P.2.1 a = c'.P.2.1 a ∧ m'.P.2.2 a = c'.P.2.2 a ∧ m'.ky a = c'.ck a ∧ (m.kd (T' a - 1) = 1 → c'.cz a = z' a)) (bp : BP m'.P)
    (ss : ∀ r, r = s ∨ r = t → m'.rt r = c'.ro r ∧ (c'.ro r ≠ 0 → T' (c'.ro r) = r + 1 ∧ c'.P.2.2 (c'.ro r) = 0) ∧ (∀ a, T' a = r + 1 → c'.P.2.2 a = 0 → a = c'.ro r) ∧ c'.he r = Sm T' (r + 1) (fun _ => 1) ∧ c'.vs r = Sm T' (r + 1) (fun a => (V' a).length) ∧ (m.kd r = 1 → c'.lg r = Sm T' (r + 1) (fun a => Nat.log2 (z' a))))
    (oo : ∀ r, r ≠ s → r ≠ t → m'.rt r = m.rt r ∧ c'.ro r = c.ro r ∧ c'.he r = c.he r ∧ c'.vs r = c.vs r ∧ c'.lg r = c.lg r ∧ c'.hy r = c.hy r) :
    JT m' c' T' z' ∧ JR m' c' T' ∧ JP m' c' T' ∧ JZ m' c' T' z' V' := by
  have key : ∀ a, T' a ≠ 0 → ((T' a = s + 1 ∨ T' a = t + 1) ∧ T' a ≤ m.K ∧ m.kd (T' a - 1) ≤ 1) ∨ (T' a ≠ s + 1 ∧ T' a ≠ t + 1 ∧ T a = T' a) := fun a ha => by
    by_cases g : T' a = s + 1
    · exact Or.inl ⟨Or.inl g, by omega, by rw [g, Nat.add_sub_cancel]; exact ks⟩
    · by_cases g2 : T' a = t + 1
      · exact Or.inl ⟨Or.inr g2, by omega, by rw [g2, Nat.add_sub_cancel]; exact kt⟩
      · have e : T' a - 1 + 1 = T' a := by omega
        have := (lab (T' a - 1) (by omega) (by omega) a).mp e.symm
        exact Or.inr ⟨g, g2, by omega⟩
  refine ⟨⟨hW, hT', fun a ha => ?_⟩, fun r hr => ?_, ⟨bp, fun a ha => ?_⟩, fun r hr => ?_, fun a ha h => ?_, fun a ha h => ?_⟩
  · rw [eK, ek]
    rcases key a ha with g | g
    · exact ⟨g.2.1, by omega⟩
    · rw [← g.2.2] at ha ⊢
      exact jt.2.2 a ha
  · rw [eK] at hr
    rw [ek, epl]
    obtain ⟨r1, r2, r3, r4⟩ := jr r hr
    by_cases g : r = s ∨ r = t
    · obtain ⟨s1, s2, s3, -⟩ := ss r g
      have kr : m.kd r ≤ 1 := by rcases g with g | g <;> rw [g] <;> assumption
      exact ⟨fun h => ⟨s1, (r1 h).2⟩, fun h => by omega, s2, s3⟩
    · have g1 : r ≠ s := fun q => g (Or.inl q)
      have g2 : r ≠ t := fun q => g (Or.inr q)
      obtain ⟨o1, o2, -⟩ := oo r g1 g2
      rw [o1, o2]
      have rf : ∀ a, T a = r + 1 → c'.P.2.2 a = c.P.2.2 a := fun a ha => by
        have e := (lab r g1 g2 a).mpr ha
        exact (fr a (by rw [e]; exact Nat.succ_ne_zero r) (by rw [e]; omega) (by rw [e]; omega)).2.2.1
      refine ⟨r1, r2, fun h => ⟨(lab r g1 g2 _).mpr (r3 h).1, by rw [rf _ (r3 h).1]; exact (r3 h).2⟩, fun a ha hu => ?_⟩
      have e := (lab r g1 g2 a).mp ha
      rw [rf a e] at hu
      exact r4 a e hu
  · rw [ek]
    rcases key a ha with g | g
    · obtain ⟨w1, w2, w3, w4, -⟩ := own a g.1
      exact ⟨w1, w2, w4, fun _ => w3⟩
    · obtain ⟨f1, f2, f3, f4, f5, f6, f7, f8, -⟩ := fr a ha g.1 g.2.1
      rw [f1, f2, f3, f4, f5, f6, f7, f8, ← g.2.2]
      exact jp.2 a (by rw [g.2.2]; exact ha)
  · rw [eK] at hr
    rw [ek]
    by_cases g : r = s ∨ r = t
    · obtain ⟨-, -, -, s4, s5, s6⟩ := ss r g
      have kr : m.kd r ≤ 1 := by rcases g with g | g <;> rw [g] <;> assumption
      exact ⟨fun _ => s4, fun _ => s5, s6, fun h => by omega⟩
    · have g1 : r ≠ s := fun q => g (Or.inl q)
      have g2 : r ≠ t := fun q => g (Or.inr q)
      obtain ⟨o1, o2, o3, o4, o5, o6⟩ := oo r g1 g2
      rw [o3, o4, o5, o6]
      obtain ⟨z1, z2, z3, z4⟩ := jz.1 r hr
      have Vo : ∀ f f' : Nat → Nat, (∀ a, T a = r + 1 → f' a = f a) → Sm T' (r + 1) f' = Sm T (r + 1) f := fun f f' he => by
        rw [Sm_T (T := T) (s := r + 1) (fun a => lab r g1 g2 a) f']
        exact Sm_congr jt.2.1 (Nat.succ_ne_zero r) he
      have ff : ∀ a, T a = r + 1 → c'.P.2.1 a = c.P.2.1 a ∧ z' a = z a ∧ V' a = V a := fun a ha => by
        have e := (lab r g1 g2 a).mpr ha
        obtain ⟨-, f2, -, -, -, -, -, -, -, f3, f4⟩ := fr a (by rw [e]; exact Nat.succ_ne_zero r) (by rw [e]; omega) (by rw [e]; omega)
        exact ⟨f2, f3, f4⟩
      refine ⟨fun h => ?_, fun h => ?_, fun h => ?_, fun h h' => ?_⟩
      · rw [Vo (fun _ => 1) (fun _ => 1) (fun _ _ => rfl)]; exact z1 h
      · rw [Vo (fun a => (V a).length) (fun a => (V' a).length) (fun a ha => by show (V' a).length = _; rw [(ff a ha).2.2])]; exact z2 h
      · rw [Vo (fun a => Nat.log2 (z a)) (fun a => Nat.log2 (z' a)) (fun a ha => by show Nat.log2 (z' a) = _; rw [(ff a ha).2.1])]; exact z3 h
      · rw [Vo (hv c.P z) (hv c'.P z') (fun a ha => ?_)]
        · exact z4 h h'
        · obtain ⟨f1, f2, -⟩ := ff a ha
          have ta : T a ≠ 0 := by rw [ha]; exact Nat.succ_ne_zero r
          unfold hv
          rw [f1, f2]
          by_cases b0 : c.P.2.1 a = 0
          · rw [b0, hW.2.1, jt.1.2.1]
          · rw [(ff _ (((jt.1.2.2 a ta).2.1 b0).2.trans ha)).2.1]
  · rw [ek] at h
    rcases key a ha with g | g
    · exact (own a g.1).2.2.2.2 (by omega)
    · obtain ⟨-, -, -, -, -, -, -, -, f1, f2, -⟩ := fr a ha g.1 g.2.1
      rw [f1, f2]
      rw [← g.2.2] at ha h
      exact jz.2.1 a ha h
  · rw [ek] at h
    rcases key a ha with g | g
    · omega
    · obtain ⟨-, -, -, -, -, -, -, -, -, -, f3⟩ := fr a ha g.1 g.2.1
      rw [f3]
      rw [← g.2.2] at ha h
      exact jz.2.2 a ha h
theorem JL.tr {m m' : MS} {c c' : CS} {d d' : DS} {T T' z : Nat → Nat} {s t : Nat} (jl : JL m c d T) (hw : WF c.P T z) (hK : m'.K = m.K) (hkd : m'.kd = m.kd) (lab : ∀ r, r ≠ s → r ≠ t → ∀ a, T' a = r + 1 ↔ T a = r + 1) (h0 : ∀ r, r = s ∨ r = t → c'.la r = 0) (oo : ∀ r, r ≠ s → r ≠ t → c'.la r = c.la r ∧ c'.tl r = c.tl r ∧ c'.dp r = c.dp r ∧ c'.ro r = c.ro r)
    (fr : ∀ a, T a ≠ 0 → T a ≠ s + 1 → T a ≠ t + 1 → c'.P.1 a = c.P.1 a ∧ c'.P.2.1 a = c.P.2.1 a ∧ c'.P.2.2 a = c.P.2.2 a ∧ c'.ck a = c.ck a) (own : ∀ a, (T' a = s + 1 ∨ T' a = t + 1) → m.kd (T' a - 1) = 0 → OrK c'.P c'.ck a) (hd : d'.ph = d.ph) : JL m' c' d' T' := by
  obtain ⟨j1, j2, j3⟩ := jl
  refine ⟨fun r hr h => ?_, fun r hr h => ?_, fun a ha h => ?_⟩
  · rw [hK] at hr
    rw [hkd] at h
    by_cases g : r = s ∨ r = t
    · exact h0 r g
    · rw [(oo r (fun q => g (Or.inl q)) (fun q => g (Or.inr q))).1]
      exact j1 r hr h
  · rw [hK] at hr
    rw [hkd] at h
    unfold JLs
    by_cases g : r = s ∨ r = t
    · intro q; exact absurd (h0 r g) q
    · have g1 : r ≠ s := fun q => g (Or.inl q)
      have g2 : r ≠ t := fun q => g (Or.inr q)
      obtain ⟨o1, o2, o3, o4⟩ := oo r g1 g2
      rw [o1, o2, o3, o4, hd]
      intro l0
      obtain ⟨t1, t2, t', t3, t4, t5⟩ := j2 r hr h l0
      have tl0 : T (c.la r) ≠ 0 := by rw [t1]; exact Nat.succ_ne_zero r
      have frr : ∀ x, T x = T (c.la r) → c'.P.1 x = c.P.1 x ∧ c'.P.2.1 x = c.P.2.1 x ∧ c'.P.2.2 x = c.P.2.2 x ∧ c'.ck x = c.ck x := fun x hx => by
        rw [t1] at hx
        exact fr x (by rw [hx]; exact Nat.succ_ne_zero r) (by rw [hx]; omega) (by rw [hx]; omega)
      refine ⟨(lab r g1 g2 _).mpr t1, ?_, t', t3, ?_, t5.fr hw tl0 (fun x hx => ⟨(frr x hx).1, (frr x hx).2.2.1, (frr x hx).2.2.2⟩) (fun q => ?_)⟩
      · rw [upI_cg hw tl0 (fun x hx => (frr x hx).2.2.1)]
        exact t2
      · rcases t4 with q | q
        · exact Or.inl q
        · exact Or.inr ((lab r g1 g2 _).mpr q)
      · exact (frr t' ((t4.resolve_left q).trans t1.symm)).2.2.2
  · rw [hkd] at h
    by_cases g1 : T' a = s + 1
    · exact own a (Or.inl g1) h
    · by_cases g2 : T' a = t + 1
      · exact own a (Or.inr g2) h
      · have e0 : T' a - 1 + 1 = T' a := by omega
        have e := (lab (T' a - 1) (by omega) (by omega) a).mp e0.symm
        rw [e0] at e
        rw [← e] at ha h g1 g2
        exact (j3 a ha h).fr hw ha (fun x hx => fr x (by rw [hx]; exact ha) (by rw [hx]; exact g1) (by rw [hx]; exact g2))
set_option maxHeartbeats 4000000 in
/-- a tree loses a node x and an item i; x's key and values go to n, if that is another one -/
theorem gone_tr {m m' : MS} {c c' : CS} {d : DS} {B : AH} {T z z' : Nat → Nat} {V R : Nat → List Nat} {FN FI : List Nat} {ow : Nat → Nat} (hj : JJ m c d B T z V R FN FI ow) {s n x i q : Nat} (hs : s < m.K) (ks : m.kd s ≤ 1) (hn : T n = s + 1) (hx : T x = s + 1) (hV : V n = [i])
    (em : m'.kd = m.kd ∧ m'.rt = u1 m.rt s q ∧ m'.pl = m.pl ∧ m'.nu = m.nu ∧ m'.cs = m.cs ∧ m'.it = m.it ∧ m'.nx = u1 m.nx i m.fi ∧ m'.K = m.K ∧ m'.E = m.E - 1 ∧ m'.nm = m.nm ∧ m'.fn = x ∧ m'.im = m.im ∧ m'.fi = i ∧ m'.se = m.se)
    (eo : ∀ b, b ≠ n → m'.ky b = m.ky b ∧ m'.fV b = m.fV b ∧ m'.lV b = m.lV b ∧ c'.ck b = c.ck b ∧ c'.nv b = c.nv b ∧ c'.f1 b = c.f1 b ∧ c'.l1 b = c.l1 b)
    (ex : x ≠ n → m'.ky n = m.ky x ∧ m'.fV n = m.fV x ∧ m'.lV n = m.lV x ∧ c'.ck n = c.ck x ∧ c'.nv n = c.nv x ∧ c'.f1 n = c.f1 x ∧ c'.l1 n = c.l1 x)
    (ec : c'.cc = c.cc ∧ c'.vn = c.vn ∧ c'.vx = c.vx ∧ c'.kd = c.kd ∧ c'.ro = u1 c.ro s q ∧ c'.he = u1 c.he s (c.he s - 1) ∧ c'.vs = u1 c.vs s (c.vs s - 1) ∧ c'.hy = c.hy ∧ c'.la = u1 c.la s 0 ∧ c'.tl = c.tl ∧ c'.dp = c.dp ∧ c'.pa = c.pa ∧ c'.K = c.K ∧ c'.ar = c.ar ∧ c'.cn = c.cn ∧ ∀ r, r ≠ s → c'.lg r = c.lg r)
    (ep : WF c'.P (u1 T x 0) z' ∧ BP m'.P ∧ (∀ b, u1 T x 0 b = s + 1 → m'.P.1 b = c'.P.1 b ∧ m'.P.2.1 b = c'.P.2.1 b ∧ m'.P.2.2 b = c'.P.2.2 b ∧ (m.kd s = 1 → c'.cz b = z' b)) ∧ (∀ b, b ≠ 0 → T b ≠ s + 1 → m'.P.1 b = m.P.1 b ∧ m'.P.2.1 b = m.P.2.1 b ∧ m'.P.2.2 b = m.P.2.2 b) ∧ m'.P.1 x = m.fn ∧ (∀ b, T b ≠ 0 → T b ≠ s + 1 → c'.P.1 b = c.P.1 b ∧ c'.P.2.1 b = c.P.2.1 b ∧ c'.P.2.2 b = c.P.2.2 b ∧ c'.cz b = c.cz b ∧ z' b = z b) ∧ (q ≠ 0 → u1 T x 0 q = s + 1 ∧ c'.P.2.2 q = 0) ∧ (∀ b, u1 T x 0 b = s + 1 → c'.P.2.2 b = 0 → b = q) ∧ (m.kd s = 1 → c'.lg s = Sm (u1 T x 0) (s + 1) (fun a => Nat.log2 (z' a))) ∧ (m.kd s = 0 → ∀ b, u1 T x 0 b = s + 1 → OrK c'.P c'.ck b)) :
    JJ m' c' ((d.dn x).di i) B (u1 T x 0) z' (u1 V n (V x)) R (x :: FN) (i :: FI) (fun j => if j = i then 50000 else if ow j = x then n else ow j) := by
  obtain ⟨jb, js, jt, jr, jp, jd, jv, ji, jf, jw, jh, jz, jl⟩ := id hj
  obtain ⟨m1, m2, m3, m4, m7, m10, m11, m12, m13, m14, m15, m16, m17, m18⟩ := em
  obtain ⟨c2, c8, c9, c10, c11, c12, c13, c13a, c14, c15, c16, c19, c20, c21, c22, c3⟩ := ec
  obtain ⟨p1, p2, p3, p4, p4a, p5, p6, p7, p8, p9⟩ := ep
  have κ0 : s + 1 ≠ 0 := Nat.succ_ne_zero s
  have tx : T x ≠ 0 := by rw [hx]; exact κ0
  have tn : T n ≠ 0 := by rw [hn]; exact κ0
  have x0 := jt.1.n0 tx
  have n0 := jt.1.n0 tn
  have xb := jt.2.1.2 x tx
  have nb := jt.2.1.2 n tn
  obtain ⟨v1, v2, v3, v4, v5, v6, v7, v8⟩ := jv n tn
  have hi : i ∈ V n := by rw [hV]; exact List.mem_singleton.mpr rfl
  have oi : ow i = n := (v8 i hi).1
  have i0 : i ≠ 0 := by rw [hV] at v2; exact v2.2.1
  have iw := item_let ji (i := i) (by rw [oi]; exact n0) (by rw [oi]; omega)
  have Ta : ∀ b, b ≠ x → u1 T x 0 b = T b := fun b hb => u1_o _ _ hb
  have back : ∀ b, u1 T x 0 b ≠ 0 → b ≠ x ∧ T b ≠ 0 := fun b hb => by
    have g : b ≠ x := fun g => by rw [g, u1_s] at hb; exact hb rfl
    rw [u1_o _ _ g] at hb
    exact ⟨g, hb⟩
  have nV : ∀ b, T b ≠ 0 → b ≠ n → i ∉ V b := fun b hb hne g => by
    have := ((jv b hb).2.2.2.2.2.2.2 i g).1
    rw [oi] at this
    exact hne this.symm
  have nR : ∀ t, t < m.K → 4 ≤ m.kd t → i ∉ R t := fun t ht hkt g => by
    have := (jw.1 t ht hkt).2.2.1 _ g
    omega
  have hTN : TN (u1 T x 0) := TN_u1 jt.2.1 x0 xb
  have lab : ∀ r, r ≠ s → r ≠ s → ∀ a, u1 T x 0 a = r + 1 ↔ T a = r + 1 := fun r hr _ b => by
    by_cases g : b = x
    · rw [g, u1_s, hx]
      exact ⟨fun h => by omega, fun h => by omega⟩
    · rw [u1_o _ _ g]
  have nlab : ∀ b, T b ≠ s + 1 → b ≠ n := fun b hb g => hb (by rw [g]; exact hn)
  have svs : c.vs s - 1 = Sm (u1 T x 0) (s + 1) (fun a => (u1 V n (V x) a).length) := by
    rw [(jz.1 s hs).2.1 ks]
    have d1 := Sm_del jt.2.1 κ0 (fun a => (V a).length) hx
    have ln1 : (V n).length = 1 := by rw [hV]; rfl
    by_cases g : x = n
    · rw [g] at d1 ⊢
      have e2 : (fun a => (u1 V n (V n) a).length) = (fun a => (V a).length) := by rw [u1_id]
      rw [e2]
      have d1 : Sm T (s + 1) (fun a => (V a).length) = (V n).length + Sm (u1 T n 0) (s + 1) (fun a => (V a).length) := d1
      omega
    · have d2 := Sm_upd hTN κ0 (fun a => (V a).length) (a := n) (V x).length (by rw [Ta n (Ne.symm g)]; exact hn)
      have e2 : u1 (fun a => (V a).length) n (V x).length = (fun a => (u1 V n (V x) a).length) := by
        funext a
        by_cases h : a = n
        · rw [h, u1_s, u1_s]
        · rw [u1_o _ _ h, u1_o _ _ h]
      rw [e2] at d2
      have d1 : Sm T (s + 1) (fun a => (V a).length) = (V x).length + Sm (u1 T x 0) (s + 1) (fun a => (V a).length) := d1
      have d2 : Sm (u1 T x 0) (s + 1) (fun a => (u1 V n (V x) a).length) + (V n).length = Sm (u1 T x 0) (s + 1) (fun a => (V a).length) + (V x).length := d2
      omega
  have H4 := tr4 (m := m) (m' := m') (c := c) (c' := c') (T := T) (T' := u1 T x 0) (z := z) (z' := z') (V := V) (V' := u1 V n (V x)) (s := s) (t := s) hs hs ks ks jt jr jp jz m12 m1 m3 hTN lab p1 (fun b hb h1 _ => by
      obtain ⟨bx, tb⟩ := back b hb
      rw [Ta b bx] at h1
      obtain ⟨y1, y2, y3⟩ := p4 b (jt.1.n0 tb) h1
      obtain ⟨y4, y5, y6, y7, y8⟩ := p5 b tb h1
      have bn := nlab b h1
      obtain ⟨z1, -, -, z4, -⟩ := eo b bn
      exact ⟨y4, y5, y6, y1, y2, y3, z1, z4, y7, y8, u1_o _ _ bn⟩) (fun b hb => by
      have hb : u1 T x 0 b = s + 1 := by rcases hb with g | g <;> exact g
      obtain ⟨bx, tb⟩ := back b (by rw [hb]; exact κ0)
      obtain ⟨y1, y2, y3, y4⟩ := p3 b hb
      refine ⟨y1, y2, y3, ?_, fun h => y4 (by rw [hb, Nat.add_sub_cancel] at h; exact h)⟩
      by_cases g : b = n
      · have xn : x ≠ n := fun q => bx (by rw [g, q])
        obtain ⟨z1, -, -, z4, -⟩ := ex xn
        rw [g, z1, z4]
        exact (jp.2 x tx).2.2.1
      · obtain ⟨z1, -, -, z4, -⟩ := eo b g
        rw [z1, z4]
        exact (jp.2 b tb).2.2.1) p2 (fun r hr => by
      have hr : r = s := by rcases hr with g | g <;> exact g
      rw [hr, m2, c11, c12, c13, u1_s, u1_s, u1_s, u1_s]
      refine ⟨rfl, p6, p7, ?_, svs, p8⟩
      have := Sm_del jt.2.1 κ0 (fun _ => 1) hx
      rw [(jz.1 s hs).1 (by omega)]
      omega) (fun r hr _ => by
      rw [m2, c11, c12, c13, c13a, u1_o _ _ hr, u1_o _ _ hr, u1_o _ _ hr, u1_o _ _ hr]
      exact ⟨rfl, rfl, rfl, rfl, c3 r hr, rfl⟩)
  have ow1 : ∀ j, j ≠ i → (if j = i then 50000 else if ow j = x then n else ow j) = if ow j = x then n else ow j := fun j h => if_neg h
  refine ⟨(jb.dn x).di i, ?_, H4.1, H4.2.1, H4.2.2.1, ?_, fun b hb => ?_, ?_, ?_, ?_, ?_, H4.2.2.2, ?_⟩
  · refine ⟨by rw [m12, c20]; exact js.1, by unfold AR; rw [c20, c21]; exact js.2.1, fun s' => ?_, fun s' hs' => ?_⟩
    · rw [m12]; exact js.2.2.1 s'
    · rw [m12] at hs'
      rw [c10, m1]
      exact js.2.2.2 s' hs'
  · have jd' := (jd.dn x0 tx).di i0 (by rw [oi]; exact n0) (by rw [oi]; exact nb)
    refine ⟨jd'.1, fun j j0 => ?_⟩
    rw [jd'.2 j j0]
    show _ ↔ (if j = i then 50000 else if ow j = x then n else ow j) ≠ 0 ∧ (if j = i then 50000 else if ow j = x then n else ow j) ≤ 20002
    by_cases g : j = i
    · rw [g, u1_s, if_pos rfl]
    · rw [u1_o _ _ g, ow1 j g]
      by_cases h : ow j = x
      · rw [if_pos h, h]
        exact ⟨fun _ => ⟨n0, nb⟩, fun _ => ⟨x0, xb⟩⟩
      · rw [if_neg h]
  · obtain ⟨bx, tb⟩ := back b hb
    rw [m11, c8, m10, c9]
    by_cases g : b = n
    · have xn : x ≠ n := fun q => bx (by rw [g, q])
      obtain ⟨-, z2, z3, -, z5, z6, z7⟩ := ex xn
      obtain ⟨w1, w2, w3, w4, w5, w6, w7, w8⟩ := jv x tx
      rw [g, z2, z3, z5, z6, z7, u1_s]
      refine ⟨w1, Chn_u (nV x tx xn) w2, w3, w4, w5, w6, w7, fun j hj' => ?_⟩
      have ne : j ≠ i := fun h => nV x tx xn (by rw [← h]; exact hj')
      obtain ⟨o1, o2, o3⟩ := w8 j hj'
      show (if j = i then 50000 else if ow j = x then n else ow j) = n ∧ _ ∧ _
      rw [ow1 j ne, if_pos o1, u1_o _ _ ne]
      exact ⟨rfl, o2, o3⟩
    · obtain ⟨-, z2, z3, -, z5, z6, z7⟩ := eo b g
      obtain ⟨w1, w2, w3, w4, w5, w6, w7, w8⟩ := jv b tb
      rw [z2, z3, z5, z6, z7, u1_o _ _ g]
      refine ⟨w1, Chn_u (nV b tb g) w2, w3, w4, w5, w6, w7, fun j hj' => ?_⟩
      have ne : j ≠ i := fun h => nV b tb g (by rw [← h]; exact hj')
      obtain ⟨o1, o2, o3⟩ := w8 j hj'
      show (if j = i then 50000 else if ow j = x then n else ow j) = b ∧ _ ∧ _
      rw [ow1 j ne, if_neg (by rw [o1]; exact bx), u1_o _ _ ne]
      exact ⟨o1, o2, o3⟩
  · obtain ⟨i1, i2, i3, i4, i5, i6, i7⟩ := ji
    refine ⟨by rw [m11, m17]; exact iw.2.1, iw.2.2.1, fun j hj' => ?_, by rw [m16, m13]; exact iw.2.2.2.1, by rw [m16]; exact i5, fun j hj' => ?_, fun j h1 h2 => ?_⟩
    · by_cases g : j = i
      · exact if_pos g
      · have o5 := i3 j ((List.mem_cons.mp hj').resolve_left g)
        show (if j = i then 50000 else if ow j = x then n else ow j) = 50000
        rw [ow1 j g, if_neg (by rw [o5]; omega)]
        exact o5
    · rw [m16]
      by_cases g : j = i
      · rw [g]; exact i6 i (by rw [oi]; exact n0)
      · refine i6 j ?_
        intro h
        have hj' : (if j = i then 50000 else if ow j = x then n else ow j) ≠ 0 := hj'
        rw [ow1 j g, if_neg (by rw [h]; exact Ne.symm x0)] at hj'
        exact hj' h
    · have ji' : j ≠ i := fun g => by
        have h2 : (if j = i then 50000 else if ow j = x then n else ow j) ≤ 20002 := h2
        rw [if_pos g] at h2; omega
      have h1 : (if j = i then 50000 else if ow j = x then n else ow j) ≠ 0 := h1
      have h2 : (if j = i then 50000 else if ow j = x then n else ow j) ≤ 20002 := h2
      show u1 T x 0 (if j = i then 50000 else if ow j = x then n else ow j) ≠ 0 ∧ j ∈ u1 V n (V x) (if j = i then 50000 else if ow j = x then n else ow j)
      rw [ow1 j ji'] at h1 h2 ⊢
      by_cases h : ow j = x
      · obtain ⟨t1, t2⟩ := i7 j (by rw [h]; exact x0) (by rw [h]; exact xb)
        rw [h] at t2
        have xn : x ≠ n := fun g => by
          rw [g, hV, List.mem_singleton] at t2
          exact ji' t2
        rw [if_pos h, u1_o _ _ (Ne.symm xn), u1_s]
        exact ⟨tn, t2⟩
      · rw [if_neg h] at h1 h2 ⊢
        obtain ⟨t1, t2⟩ := i7 j h1 h2
        have na : ow j ≠ n := fun g => by
          rw [g, hV, List.mem_singleton] at t2
          exact ji' t2
        rw [u1_o _ _ h, u1_o _ _ na]
        exact ⟨t1, t2⟩
  · obtain ⟨f1, f2, f3, f4, f5, f6⟩ := jf
    have aF : x ∉ FN := fun g => tx (f3 x g).1
    refine ⟨?_, List.nodup_cons.mpr ⟨aF, f2⟩, fun b hb => ?_, fun b h1 h2 => ?_, fun b hb => ?_, by rw [m14]; exact f6⟩
    · rw [m15]
      refine ⟨rfl, x0, ?_⟩
      rw [p4a]
      have nz : ∀ y, y ∈ FN → y ≠ 0 := fun y hy g => Chn_mem0 f1 (g ▸ hy)
      refine Chn_cg (fun y hy => ?_) f1
      exact (p4 y (nz y hy) (by rw [(f3 y hy).1]; exact Ne.symm κ0)).1
    · rw [m14]
      rcases List.mem_cons.mp hb with g | g
      · rw [g, u1_s]; exact ⟨rfl, f5 x tx⟩
      · have ba : b ≠ x := fun e => aF (by rw [← e]; exact g)
        rw [u1_o _ _ ba]
        exact f3 b g
    · rw [m14] at h2
      by_cases g : b = x
      · exact Or.inr (by rw [g]; exact List.mem_cons_self)
      · rcases f4 b h1 h2 with e | e
        · exact Or.inl (by rw [u1_o _ _ g]; exact e)
        · exact Or.inr (List.mem_cons_of_mem _ e)
    · rw [m14]
      exact f5 b (back b hb).2
  · refine ⟨fun t ht hkt => ?_, fun t u ht hu hkt hku => ?_⟩
    · rw [m12] at ht
      rw [m1] at hkt
      obtain ⟨w1, w2, w3, w4, w5, w6, w7, w8⟩ := jw.1 t ht hkt
      have ts : t ≠ s := fun q => by rw [q] at hkt; omega
      unfold JWs
      rw [m2, m4, m3, c12, c19, m10, m11, u1_o _ _ ts, u1_o _ _ ts]
      refine ⟨Chn_u (nR t ht hkt) w1, w2, fun j hj' => ?_, w4, w5, w6, w7, w8⟩
      have ne : j ≠ i := fun q => nR t ht hkt (by rw [← q]; exact hj')
      have := w3 j hj'
      show (if j = i then 50000 else if ow j = x then n else ow j) = _
      rw [ow1 j ne, if_neg (by omega)]
      exact this
    · rw [m12] at ht hu
      rw [m1] at hkt hku
      rw [c19]
      exact jw.2 t u ht hu hkt hku
  · unfold JH
    rw [m7, m18, m1, c2, c22]
    refine ⟨jh.1, fun b hb => jh.2.1 b (back b hb).2, fun b hb h2 => ?_, fun b e hb he h2 h3 => ?_⟩
    · rw [Ta b (back b hb).1] at h2
      exact jh.2.2.1 b (back b hb).2 h2
    · rw [Ta b (back b hb).1] at h2
      rw [Ta e (back e he).1] at h3
      exact jh.2.2.2 b e (back b hb).2 (back e he).2 h2 h3
  · refine jl.tr (s := s) (t := s) (z := z) jt.1 m12 m1 lab (fun r hr => ?_) (fun r hr _ => ?_) (fun b hb h1 _ => ?_) (fun b hb hk => ?_) rfl
    · have hr : r = s := by rcases hr with g | g <;> exact g
      rw [hr, c14, u1_s]
    · rw [c14, c15, c16, c11, u1_o _ _ hr, u1_o _ _ hr]
      exact ⟨rfl, rfl, rfl, rfl⟩
    · obtain ⟨y4, y5, y6, -⟩ := p5 b hb h1
      exact ⟨y4, y5, y6, (eo b (nlab b h1)).2.2.2.1⟩
    · have hb : u1 T x 0 b = s + 1 := by rcases hb with g | g <;> exact g
      rw [hb, Nat.add_sub_cancel] at hk
      exact p9 hk b hb
