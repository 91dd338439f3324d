-- nodes move between two TURNING trees: the invariant
set_option maxHeartbeats 4000000 in
theorem move_tr {m m' : MS} {c c' : CS} {d : DS} {B : AH} {T T' z z' : Nat → Nat} {V R : Nat → List Nat} {FN FI : List Nat} {ow : Nat → Nat} (hj : JJ m c d B T z V R FN FI ow) {s t : Nat} (hs : s < m.K) (ht : t < m.K) (ks : m.kd s = 1) (kt : m.kd t = 1) (t0 : ∀ a, T' a = 0 ↔ T a = 0) (lab : ∀ r, r ≠ s → r ≠ t → ∀ a, T' a = r + 1 ↔ T a = r + 1)
    (em : m'.kd = m.kd ∧ m'.pl = m.pl ∧ m'.nu = m.nu ∧ m'.cs = m.cs ∧ m'.it = m.it ∧ m'.nx = m.nx ∧ m'.K = m.K ∧ m'.E = m.E ∧ m'.nm = m.nm ∧ m'.fn = m.fn ∧ m'.im = m.im ∧ m'.fi = m.fi ∧ m'.se = m.se ∧ m'.ky = m.ky ∧ m'.lV = m.lV ∧ m'.fV = m.fV)
    (ec : c'.cc = c.cc ∧ c'.vn = c.vn ∧ c'.vx = c.vx ∧ c'.kd = c.kd ∧ c'.tl = c.tl ∧ c'.dp = c.dp ∧ c'.pa = c.pa ∧ c'.K = c.K ∧ c'.ar = c.ar ∧ c'.cn = c.cn ∧ c'.ck = c.ck ∧ c'.l1 = c.l1 ∧ c'.f1 = c.f1 ∧ c'.nv = c.nv)
    (oo : ∀ r, r ≠ s → r ≠ t → m'.rt r = m.rt r ∧ c'.ro r = c.ro r ∧ c'.he r = c.he r ∧ c'.vs r = c.vs r ∧ c'.lg r = c.lg r ∧ c'.hy r = c.hy r ∧ c'.la r = c.la r)
    (ela : ∀ r, r = s ∨ r = t → c'.la r = 0)
    (hW : WF c'.P T' z') (bp : BP m'.P)
    (own : ∀ a, (T' a = s + 1 ∨ T' a = t + 1) → m'.P.1 a = c'.P.1 a ∧ m'.P.2.1 a = c'.P.2.1 a ∧ m'.P.2.2 a = c'.P.2.2 a ∧ c'.cz a = z' a)
    (frm : ∀ b, b ≠ 0 → T b ≠ s + 1 → T b ≠ t + 1 → m'.P.1 b = m.P.1 b ∧ m'.P.2.1 b = m.P.2.1 b ∧ m'.P.2.2 b = m.P.2.2 b)
    (frc : ∀ b, T b ≠ 0 → T b ≠ s + 1 → T b ≠ t + 1 → c'.P.1 b = c.P.1 b ∧ c'.P.2.1 b = c.P.2.1 b ∧ c'.P.2.2 b = c.P.2.2 b ∧ c'.cz b = c.cz b ∧ z' b = z b)
    (ss : ∀ r, r = s ∨ r = t → m'.rt r = c'.ro r ∧ (c'.ro r ≠ 0 → T' (c'.ro r) = r + 1 ∧ c'.P.2.2 (c'.ro r) = 0) ∧ (∀ a, T' a = r + 1 → c'.P.2.2 a = 0 → a = c'.ro r) ∧ c'.he r = Sm T' (r + 1) (fun _ => 1) ∧ c'.vs r = Sm T' (r + 1) (fun a => (V a).length) ∧ c'.lg r = Sm T' (r + 1) (fun a => Nat.log2 (z' a))) :
    JJ m' c' d B T' z' V R FN FI ow := by
  obtain ⟨jb, js, jt, jr, jp, jd, jv, ji, jf, jw, jh, jz, jl⟩ := id hj
  obtain ⟨m1, m3, m4, m7, m10, m11, m12, m13, m14, m15, m16, m17, m18, m19, m20, m21⟩ := em
  obtain ⟨c2, c8, c9, c10, c15, c16, c19, c20, c21, c22, c23, c24, c25, c26⟩ := ec
  have hTN : TN T' := ⟨(t0 0).mpr jt.2.1.1, fun a ha => jt.2.1.2 a (fun g => ha ((t0 a).mpr g))⟩
  have tn : ∀ a, T' a ≠ 0 → T a ≠ 0 := fun a ha g => ha ((t0 a).mpr g)
  have key : ∀ a, T' a ≠ 0 → ((T' a = s + 1 ∨ T' a = t + 1) ∧ (T a = s + 1 ∨ T a = t + 1)) ∨ (T' a ≠ s + 1 ∧ T' a ≠ t + 1 ∧ T a = T' a) := fun a ha => by
    by_cases g : T' a = s + 1 ∨ T' a = t + 1
    · refine Or.inl ⟨g, ?_⟩
      by_cases h : T a = s + 1 ∨ T a = t + 1
      · exact h
      · have ta := tn a ha
        have := (lab (T a - 1) (fun q => h (Or.inl (by omega))) (fun q => h (Or.inr (by omega))) a).mpr (by omega)
        exact absurd g (fun q => h (by omega))
    · have := (lab (T' a - 1) (fun q => g (Or.inl (by omega))) (fun q => g (Or.inr (by omega))) a).mp (by omega)
      exact Or.inr ⟨fun q => g (Or.inl q), fun q => g (Or.inr q), by omega⟩
  have kdT : ∀ a, T' a ≠ 0 → m.kd (T' a - 1) = m.kd (T a - 1) := fun a ha => by
    rcases key a ha with g | g
    · have e1 : m.kd (T' a - 1) = 1 := by rcases g.1 with q | q <;> rw [q, Nat.add_sub_cancel] <;> assumption
      have e2 : m.kd (T a - 1) = 1 := by rcases g.2 with q | q <;> rw [q, Nat.add_sub_cancel] <;> assumption
      rw [e1, e2]
    · rw [g.2.2]
  have H4 := tr4 (m := m) (m' := m') (c := c) (c' := c') (T := T) (T' := T') (z := z) (z' := z') (V := V) (V' := V) (s := s) (t := t) hs ht (by omega) (by omega) jt jr jp jz m12 m1 m3 hTN lab hW (fun b hb h1 h2 => by
      rcases key b hb with g | g
      · exact absurd g.1 (fun q => q.elim h1 h2)
      · have tb := tn b hb
        rw [← g.2.2] at h1 h2
        obtain ⟨y1, y2, y3⟩ := frm b (jt.1.n0 tb) h1 h2
        obtain ⟨y4, y5, y6, y7, y8⟩ := frc b tb h1 h2
        exact ⟨y4, y5, y6, y1, y2, y3, by rw [m19], by rw [c23], y7, y8, rfl⟩) (fun b hb => by
      obtain ⟨y1, y2, y3, y4⟩ := own b hb
      have tb : T' b ≠ 0 := by rcases hb with g | g <;> rw [g] <;> exact Nat.succ_ne_zero _
      refine ⟨y1, y2, y3, ?_, fun _ => y4⟩
      rw [m19, c23]
      exact (jp.2 b (tn b tb)).2.2.1) bp (fun r hr => by
      obtain ⟨s1, s2, s3, s4, s5, s6⟩ := ss r hr
      exact ⟨s1, s2, s3, s4, s5, fun _ => s6⟩) (fun r h1 h2 => by
      obtain ⟨o1, o2, o3, o4, o5, o6, -⟩ := oo r h1 h2
      exact ⟨o1, o2, o3, o4, o5, o6⟩)
  refine ⟨jb, js.cg m12 m1 c20 c21 c10, H4.1, H4.2.1, H4.2.2.1, ⟨fun a a0 => ?_, jd.2⟩, fun b hb => ?_, ?_, ?_, ?_, ?_, H4.2.2.2, ?_⟩
  · rw [jd.1 a a0]
    exact ⟨fun h g => h ((t0 a).mp g), tn a⟩
  · have := jv b (tn b hb)
    rw [m11, c8, m10, c9, m20, m21, c24, c25, c26]
    exact this
  · obtain ⟨i1, i2, i3, i4, i5, i6, i7⟩ := ji
    refine ⟨by rw [m11, m17]; exact i1, i2, i3, by rw [m16, m13]; exact i4, by rw [m16]; exact i5, by rw [m16]; exact i6, fun j h1 h2 => ?_⟩
    obtain ⟨t1, t2⟩ := i7 j h1 h2
    exact ⟨fun g => t1 ((t0 _).mp g), t2⟩
  · obtain ⟨f1, f2, f3, f4, f5, f6⟩ := jf
    refine ⟨?_, f2, fun b hb => ?_, fun b h1 h2 => ?_, fun b hb => ?_, by rw [m14]; exact f6⟩
    · rw [m15]
      refine Chn_cg (fun y hy => ?_) f1
      exact (frm y (fun g => Chn_mem0 f1 (g ▸ hy)) (by rw [(f3 y hy).1]; exact Ne.symm (Nat.succ_ne_zero s)) (by rw [(f3 y hy).1]; exact Ne.symm (Nat.succ_ne_zero t))).1
    · rw [m14]
      exact ⟨(t0 b).mpr (f3 b hb).1, (f3 b hb).2⟩
    · rw [m14] at h2
      rcases f4 b h1 h2 with e | e
      · exact Or.inl (fun g => e ((t0 b).mp g))
      · exact Or.inr e
    · rw [m14]
      exact f5 b (tn b hb)
  · refine ⟨fun r hr hkr => ?_, fun r u hr hu hkt hku => ?_⟩
    · rw [m12] at hr
      rw [m1] at hkr
      have g1 : r ≠ s := fun q => by rw [q] at hkr; omega
      have g2 : r ≠ t := fun q => by rw [q] at hkr; omega
      obtain ⟨o1, o2, o3, -⟩ := oo r g1 g2
      unfold JWs
      rw [o1, o3, m4, m3, c19, m10, m11]
      exact jw.1 r hr hkr
    · rw [m12] at hr hu
      rw [m1] at hkt hku
      rw [c19]
      exact jw.2 r u hr hu hkt hku
  · unfold JH
    rw [m7, m18, m1, c2, c22]
    refine ⟨jh.1, fun b hb => jh.2.1 b (tn b hb), fun b hb h2 => ?_, fun b e hb he h2 h3 => ?_⟩
    · rw [kdT b hb] at h2
      exact jh.2.2.1 b (tn b hb) h2
    · rw [kdT b hb] at h2
      rw [kdT e he] at h3
      exact jh.2.2.2 b e (tn b hb) (tn e he) h2 h3
  · refine jl.tr (s := s) (t := t) (z := z) jt.1 m12 m1 lab ela (fun r h1 h2 => ?_) (fun b hb h1 h2 => ?_) (fun b hb hk => ?_) rfl
    · obtain ⟨-, o2, -, -, -, -, o7⟩ := oo r h1 h2
      exact ⟨o7, by rw [c15], by rw [c16], o2⟩
    · obtain ⟨y4, y5, y6, -⟩ := frc b hb h1 h2
      exact ⟨y4, y5, y6, by rw [c23]⟩
    · rcases hb with g | g
      · rw [g, Nat.add_sub_cancel] at hk; omega
      · rw [g, Nat.add_sub_cancel] at hk; omega
section M88
variable (L : Nat) (xs : Nat → Int32)
theorem lL_mem {P : PT} {T z : Nat → Nat} (hW : WF P T z) : ∀ (f a : Nat), T a ≠ 0 → T (lL P f a) = T a := by
  intro f
  induction f with
  | zero => intro a _; rfl
  | succ f ih =>
    intro a ha
    unfold lL
    by_cases c0 : P.1 a = 0
    · rw [if_pos c0]
    · rw [if_neg c0]
      have := ((hW.2.2 a ha).1 c0).2
      rw [ih _ (by rw [this]; exact ha), this]
/-- join of the reference, as far as the comparing -/
theorem m_88c {h : AH} (hb : MB h) (m : MS) {s t : Nat} (hs : s < 40) (ht : t < 40) {up T z : Nat → Nat} (hw : WF (m.P.1, m.P.2.1, up) T z) (hT : TN T) (h1 : LZ T (m.rt s)) (h2 : LZ T (m.rt t)) :
    ((m.rt s = 0 ∨ m.rt t = 0 ∨ m.ky (lR m.P 20003 (m.rt s)).1 < m.ky (lL m.P 20003 (m.rt t))) → ∃ l4 l5, X L xs 88 13 [.ref 8, .int (nI s), .int (nI t), .int 0, .null, .null] [] (ml h m) = X L xs 88 116 [.ref 8, .int (nI s), .int (nI t), .int 0, l4, l5] [] (ml h m)) ∧
    (¬ (m.rt s = 0 ∨ m.rt t = 0 ∨ m.ky (lR m.P 20003 (m.rt s)).1 < m.ky (lL m.P 20003 (m.rt t))) → X L xs 88 13 [.ref 8, .int (nI s), .int (nI t), .int 0, .null, .null] [] (ml h m) = some (ml h m, some (.int (-4)))) := by
  obtain ⟨b1, b2, b3, b4⟩ := id hb
  have hs31 : s < 2 ^ 31 := by omega
  have ht31 : t < 2 ^ 31 := by omega
  have bd : ∀ x, LZ T x → x ≤ 20002 := fun x hx => by
    rcases hx with g | g
    · omega
    · exact hT.2 x g
  have bs := bd _ h1
  have bt := bd _ h2
  have lp1 : ∀ (f a : Nat), T a ≠ 0 → z a ≤ f → X L xs 88 41 [.ref 8, .int (nI s), .int (nI t), .int 0, .int (en a), .null] [] (ml h m) = X L xs 88 64 [.ref 8, .int (nI s), .int (nI t), .int 0, .int (en (lR m.P f a).1), .null] [] (ml h m) := by
    intro f
    induction f with
    | zero => intro a ha hz; have := hw.pos ha; omega
    | succ f ih =>
      intro a ha hz
      have a1 : 1 ≤ a := Nat.pos_of_ne_zero (hw.n0 ha)
      have a2 := hT.2 a ha
      have rb := bd _ (hw.lzr ha)
      have rb : m.P.2.1 a ≤ 20002 := rb
      obtain ⟨w1, w2, w3, w4, w5⟩ := hw.2.2 a ha
      have w5 : z a = 1 + z (m.P.1 a) + z (m.P.2.1 a) := w5
      rw [k_88_41]
      simp only [Hml, b1, b2, b3, b4, HF10, gd_t, decide_true, Bool.and_self, HQ, HZ, inb_en a1 a2 (by decide), cl_en a1 (show a < 2 ^ 31 by omega), show a - 1 + 1 = a from by omega, en_m1 (show m.P.2.1 a < 2 ^ 31 by omega)]
      unfold lR
      by_cases c0 : m.P.2.1 a = 0
      · rw [if_pos c0, if_pos c0]
      · rw [if_neg c0, if_neg c0, k_88_52]
        simp only [Hml, b1, b2, b3, b4, HF10, gd_t, decide_true, Bool.and_self, HQ, HZ, inb_en a1 a2 (by decide), cl_en a1 (show a < 2 ^ 31 by omega), show a - 1 + 1 = a from by omega]
        have w2' : T (m.P.2.1 a) = T a := (w2 c0).2
        exact ih (m.P.2.1 a) (by rw [w2']; exact ha) (by omega)
  have lp2 : ∀ (f a e : Nat), T a ≠ 0 → z a ≤ f → X L xs 88 72 [.ref 8, .int (nI s), .int (nI t), .int 0, .int (en e), .int (en a)] [] (ml h m) = X L xs 88 95 [.ref 8, .int (nI s), .int (nI t), .int 0, .int (en e), .int (en (lL m.P f a))] [] (ml h m) := by
    intro f
    induction f with
    | zero => intro a e ha hz; have := hw.pos ha; omega
    | succ f ih =>
      intro a e ha hz
      have a1 : 1 ≤ a := Nat.pos_of_ne_zero (hw.n0 ha)
      have a2 := hT.2 a ha
      have rb := bd _ (hw.lzl ha)
      have rb : m.P.1 a ≤ 20002 := rb
      obtain ⟨w1, w2, w3, w4, w5⟩ := hw.2.2 a ha
      have w5 : z a = 1 + z (m.P.1 a) + z (m.P.2.1 a) := w5
      rw [k_88_72]
      simp only [Hml, b1, b2, b3, b4, HF10, gd_t, decide_true, Bool.and_self, HQ, HZ, inb_en a1 a2 (by decide), cl_en a1 (show a < 2 ^ 31 by omega), show a - 1 + 1 = a from by omega, en_m1 (show m.P.1 a < 2 ^ 31 by omega)]
      unfold lL
      by_cases c0 : m.P.1 a = 0
      · rw [if_pos c0, if_pos c0]
      · rw [if_neg c0, if_neg c0, k_88_83]
        simp only [Hml, b1, b2, b3, b4, HF10, gd_t, decide_true, Bool.and_self, HQ, HZ, inb_en a1 a2 (by decide), cl_en a1 (show a < 2 ^ 31 by omega), show a - 1 + 1 = a from by omega]
        have w1' : T (m.P.1 a) = T a := (w1 c0).2
        exact ih (m.P.1 a) e (by rw [w1']; exact ha) (by omega)
  have st : X L xs 88 13 [.ref 8, .int (nI s), .int (nI t), .int 0, .null, .null] [] (ml h m) = if m.rt s = 0 then X L xs 88 116 [.ref 8, .int (nI s), .int (nI t), .int 0, .null, .null] [] (ml h m) else if m.rt t = 0 then X L xs 88 116 [.ref 8, .int (nI s), .int (nI t), .int 0, .null, .null] [] (ml h m) else X L xs 88 41 [.ref 8, .int (nI s), .int (nI t), .int 0, .int (en (m.rt s)), .null] [] (ml h m) := by
    rw [k_88_13]
    simp only [Hml, b1, b2, b3, b4, HF10, gd_t, decide_true, Bool.and_self, HQ, HZ, inb_nI hs (by decide), nI_clamp hs31, en_m1 (show m.rt s < 2 ^ 31 by omega)]
    by_cases g : m.rt s = 0
    · rw [if_pos g, if_pos g]
    · rw [if_neg g, if_neg g, k_88_23]
      simp only [Hml, b1, b2, b3, b4, HF10, gd_t, decide_true, Bool.and_self, HQ, HZ, inb_nI ht (by decide), nI_clamp ht31, en_m1 (show m.rt t < 2 ^ 31 by omega)]
      by_cases g2 : m.rt t = 0
      · rw [if_pos g2, if_pos g2]
      · rw [if_neg g2, if_neg g2, k_88_33]
        simp only [Hml, b1, b2, b3, b4, HF10, gd_t, decide_true, Bool.and_self, HQ, HZ, inb_nI hs (by decide), nI_clamp hs31]
  have cmp : m.rt s ≠ 0 → m.rt t ≠ 0 → X L xs 88 13 [.ref 8, .int (nI s), .int (nI t), .int 0, .null, .null] [] (ml h m) = if m.ky (lR m.P 20003 (m.rt s)).1 < m.ky (lL m.P 20003 (m.rt t)) then X L xs 88 116 [.ref 8, .int (nI s), .int (nI t), .int 0, .int (en (lR m.P 20003 (m.rt s)).1), .int (en (lL m.P 20003 (m.rt t)))] [] (ml h m) else some (ml h m, some (.int (-4))) := by
    intro s0 t0
    have ts := h1.resolve_left s0
    have tt := h2.resolve_left t0
    have z1 := hw.z_le hT.2 h1
    have z2 := hw.z_le hT.2 h2
    rw [st, if_neg s0, if_neg t0, lp1 20003 _ ts (by omega), k_88_64]
    simp only [Hml, b1, b2, b3, b4, HF10, gd_t, decide_true, Bool.and_self, HQ, HZ, inb_nI ht (by decide), nI_clamp ht31]
    rw [lp2 20003 _ _ tt (by omega), k_88_95]
    have g1 := lR_mem hw 20003 (m.rt s) ts
    rw [← lR_cg (P := m.P) (Q := (m.P.1, m.P.2.1, up)) hw (fun _ _ => ⟨rfl, rfl⟩) 20003 (m.rt s) ts] at g1
    have g2 := lL_mem hw 20003 (m.rt t) tt
    rw [← lL_cg (P := m.P) (Q := (m.P.1, m.P.2.1, up)) hw (fun _ _ => ⟨rfl, rfl⟩) 20003 (m.rt t) tt] at g2
    generalize (lR m.P 20003 (m.rt s)).1 = a at *
    generalize lL m.P 20003 (m.rt t) = e at *
    have ta : T a ≠ 0 := by rw [g1]; exact ts
    have te : T e ≠ 0 := by rw [g2]; exact tt
    have a1 : 1 ≤ a := Nat.pos_of_ne_zero (hw.n0 ta)
    have e1 : 1 ≤ e := Nat.pos_of_ne_zero (hw.n0 te)
    have a2 := hT.2 a ta
    have e2 := hT.2 e te
    simp only [Hml, b1, b2, b3, b4, HF10, gd_t, decide_true, Bool.and_self, HQ, HZ, inb_en a1 a2 (by decide), cl_en a1 (show a < 2 ^ 31 by omega), show a - 1 + 1 = a from by omega, inb_en e1 e2 (by decide), cl_en e1 (show e < 2 ^ 31 by omega), show e - 1 + 1 = e from by omega, lg_cmp_lt]
    by_cases lt : m.ky a < m.ky e
    · rw [if_pos lt, if_pos lt]
    · rw [if_neg lt, if_neg lt, k_88_113]
  constructor
  · intro g
    by_cases s0 : m.rt s = 0
    · exact ⟨.null, .null, by rw [st, if_pos s0]⟩
    · by_cases t0 : m.rt t = 0
      · exact ⟨.null, .null, by rw [st, if_neg s0, if_pos t0]⟩
      · exact ⟨_, _, by rw [cmp s0 t0, if_pos ((g.resolve_left s0).resolve_left t0)]⟩
  · intro g
    rw [cmp (fun q => g (Or.inl q)) (fun q => g (Or.inr (Or.inl q))), if_neg (fun q => g (Or.inr (Or.inr q)))]
end M88
