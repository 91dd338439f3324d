-- melding: the pairs, the sizes; what the class's loop leaves
def mz (z : Nat → Nat) : List (Nat × Nat) → Nat → Nat
  | [] => z
  | p :: t => u1 (mz z t) p.1 (z p.1 + z p.2)
theorem u1_cm {α : Type} (f : Nat → α) {a b : Nat} (v w : α) (h : a ≠ b) : u1 (u1 f a v) b w = u1 (u1 f b w) a v := by
  funext x
  unfold u1
  by_cases xa : x = a
  · by_cases xb : x = b
    · exact absurd (xa.symm.trans xb) h
    · rw [if_neg xb, if_pos xa, if_pos xa]
  · by_cases xb : x = b
    · rw [if_pos xb, if_neg xa, if_pos xb]
    · rw [if_neg xb, if_neg xa, if_neg xa, if_neg xb]
theorem mz_u1 (z : Nat → Nat) {w : Nat} (v : Nat) : ∀ (l : List (Nat × Nat)), w ∉ l.map Prod.fst → w ∉ l.map Prod.snd → mz (u1 z w v) l = u1 (mz z l) w v := by
  intro l
  induction l with
  | nil => intro _ _; rfl
  | cons p t ih =>
    intro h1 h2
    rw [List.map_cons, List.mem_cons] at h1 h2
    show u1 (mz (u1 z w v) t) p.1 (u1 z w v p.1 + u1 z w v p.2) = u1 (u1 (mz z t) p.1 (z p.1 + z p.2)) w v
    rw [ih (fun g => h1 (Or.inr g)) (fun g => h2 (Or.inr g)), u1_o z _ (fun g => h1 (Or.inl g.symm)), u1_o z _ (fun g => h2 (Or.inl g.symm)), u1_cm _ _ _ (fun g => h1 (Or.inl g))]
theorem mz_o (z : Nat → Nat) : ∀ (l : List (Nat × Nat)) (x : Nat), x ∉ l.map Prod.fst → mz z l x = z x := by
  intro l
  induction l with
  | nil => intro _ _; rfl
  | cons p t ih =>
    intro x hx
    rw [List.map_cons, List.mem_cons] at hx
    show u1 (mz z t) p.1 _ x = z x
    rw [u1_o _ _ (fun g => hx (Or.inl g)), ih x (fun g => hx (Or.inr g))]
/-- the pairs that are met -/
theorem mwP_run {T : Nat → Nat} (hT : TN T) (fs : Nat → Nat → Bool) {κ : Nat} (κ0 : κ ≠ 0) : ∀ (f : Nat) (P : PT) (z : Nat → Nat) (a b : Nat), WF P T z → (a ≠ 0 → T a = κ ∧ P.2.2 a = 0) → (b ≠ 0 → T b = κ ∧ P.2.2 b = 0) → (a ≠ 0 → a ≠ b) → z a + z b ≤ f →
    (∀ p, p ∈ (mwP fs P f a b).1 → T p.1 = κ ∧ T p.2 = κ ∧ z p.1 + z p.2 ≤ z a + z b) ∧ (mwP fs P f a b).1.Pairwise (fun x y => x.1 ≠ y.1 ∧ x.1 ≠ y.2 ∧ x.1 ≠ P.2.1 y.1 ∧ x.1 ≠ P.1 y.1) ∧ (mwP fs P f a b).2 ∉ (mwP fs P f a b).1.map Prod.fst ∧ ((mwP fs P f a b).2 ≠ 0 → T (mwP fs P f a b).2 = κ) ∧ WF (mel P (mwP fs P f a b).1 (mwP fs P f a b).2) T (mz z (mwP fs P f a b).1) := by
  have stop : ∀ (P : PT) (z : Nat → Nat) (a b : Nat), WF P T z → (a ≠ 0 → T a = κ ∧ P.2.2 a = 0) → (b ≠ 0 → T b = κ ∧ P.2.2 b = 0) → (∀ p, p ∈ ([] : List (Nat × Nat)) → T p.1 = κ ∧ T p.2 = κ ∧ z p.1 + z p.2 ≤ z a + z b) ∧ ([] : List (Nat × Nat)).Pairwise (fun x y => x.1 ≠ y.1 ∧ x.1 ≠ y.2 ∧ x.1 ≠ P.2.1 y.1 ∧ x.1 ≠ P.1 y.1) ∧ (if a = 0 then b else a) ∉ ([] : List (Nat × Nat)).map Prod.fst ∧ ((if a = 0 then b else a) ≠ 0 → T (if a = 0 then b else a) = κ) ∧ WF (mel P [] (if a = 0 then b else a)) T (mz z []) := by
    intro P z a b h ha hb
    refine ⟨fun p hp => (by cases hp), List.Pairwise.nil, List.not_mem_nil, fun q => ?_, h⟩
    by_cases a0 : a = 0
    · rw [if_pos a0] at q ⊢; exact (hb q).1
    · rw [if_neg a0]; exact (ha a0).1
  intro f
  induction f with
  | zero =>
    intro P z a b h ha hb hne hz
    exact stop P z a b h ha hb
  | succ f ih =>
    intro P z a b h ha hb hne hz
    by_cases ab : a = 0 ∨ b = 0
    · have e : mwP fs P (f + 1) a b = ([], if a = 0 then b else a) := by
        show (if a = 0 ∨ b = 0 then _ else _) = _
        rw [if_pos ab]
      rw [e]
      exact stop P z a b h ha hb
    · have a0 : a ≠ 0 := fun q => ab (Or.inl q)
      have b0 : b ≠ 0 := fun q => ab (Or.inr q)
      have e : mwP fs P (f + 1) a b = ((if fs a b then a else b, if fs a b then b else a) :: (mwP fs P f (P.2.1 (if fs a b then a else b)) (if fs a b then b else a)).1, (mwP fs P f (P.2.1 (if fs a b then a else b)) (if fs a b then b else a)).2) := by
        show (if a = 0 ∨ b = 0 then _ else _) = _
        rw [if_neg ab]
      rw [e]
      have hw1 : ∃ w o, (if fs a b then a else b) = w ∧ (if fs a b then b else a) = o ∧ ((w = a ∧ o = b) ∨ (w = b ∧ o = a)) := by
        by_cases q : fs a b = true
        · exact ⟨a, b, by rw [if_pos q], by rw [if_pos q], Or.inl ⟨rfl, rfl⟩⟩
        · exact ⟨b, a, by rw [if_neg q], by rw [if_neg q], Or.inr ⟨rfl, rfl⟩⟩
      obtain ⟨w, o, ew, eo, hwo⟩ := hw1
      rw [ew, eo]
      have hwF : T w = κ ∧ P.2.2 w = 0 := by rcases hwo with q | q; rw [q.1]; exact ha a0; rw [q.1]; exact hb b0
      have hoF : T o = κ ∧ P.2.2 o = 0 := by rcases hwo with q | q; rw [q.2]; exact hb b0; rw [q.2]; exact ha a0
      have hwo' : w ≠ o := by rcases hwo with q | q; rw [q.1, q.2]; exact hne a0; rw [q.1, q.2]; exact Ne.symm (hne a0)
      have hsum : z w + z o = z a + z b := by rcases hwo with q | q; rw [q.1, q.2]; rw [q.1, q.2, Nat.add_comm]
      clear ew eo e
      have wT : T w ≠ 0 := by rw [hwF.1]; exact κ0
      have oT : T o ≠ 0 := by rw [hoF.1]; exact κ0
      have w0 := h.n0 wT
      have o0 := h.n0 oT
      have hz0 : z 0 = 0 := h.2.1
      obtain ⟨v1, v2, v3, v4, v5⟩ := h.2.2 w wT
      have ac : P.2.1 w ≠ 0 → T (P.2.1 w) = κ ∧ P.2.2 (P.2.1 w) = w := fun q => ⟨by rw [(v2 q).2]; exact hwF.1, (v2 q).1⟩
      have aw : P.2.1 w ≠ w := fun q => by have := (ac (by rw [q]; exact w0)).2; rw [q, hwF.2] at this; exact w0 this.symm
      have ao : P.2.1 w ≠ o := fun q => by have := (ac (by rw [q]; exact o0)).2; rw [q, hoF.2] at this; exact w0 this.symm
      have chw : ∀ x, T x ≠ 0 → w ≠ P.2.1 x ∧ w ≠ P.1 x := fun x hx => by
        obtain ⟨c1, c2, -⟩ := h.2.2 x hx
        refine ⟨fun q => ?_, fun q => ?_⟩
        · have := (c2 (by rw [← q]; exact w0)).1; rw [← q, hwF.2] at this; exact h.n0 hx this.symm
        · have := (c1 (by rw [← q]; exact w0)).1; rw [← q, hwF.2] at this; exact h.n0 hx this.symm
      have hc := h.cut wT hwF.2
      have cU : ∀ x, (cutR P w).2.2 x = if x = P.2.1 w ∧ P.2.1 w ≠ 0 then 0 else P.2.2 x := by
        intro x
        show (if P.2.1 w = 0 then P.2.2 else u1 P.2.2 (P.2.1 w) 0) x = _
        by_cases q : P.2.1 w = 0
        · rw [if_pos q, if_neg (fun g => g.2 q)]
        · rw [if_neg q]
          unfold u1
          by_cases g : x = P.2.1 w
          · rw [if_pos g, if_pos ⟨g, q⟩]
          · rw [if_neg g, if_neg (fun k => g k.1)]
      have cUw : (cutR P w).2.2 w = 0 := by rw [cU, if_neg (fun g => aw g.1.symm)]; exact hwF.2
      have cR : ∀ x, x ≠ w → (cutR P w).2.1 x = P.2.1 x := fun x hx => u1_o _ _ hx
      have cRw : (cutR P w).2.1 w = 0 := u1_s _ _ _
      have za : u1 z w (z w - z (P.2.1 w)) (P.2.1 w) = z (P.2.1 w) := u1_o _ _ aw
      have zo : u1 z w (z w - z (P.2.1 w)) o = z o := u1_o _ _ (Ne.symm hwo')
      have zz1 : ∀ x, x ≠ w → u1 z w (z w - z (P.2.1 w)) x = z x := fun x hx => u1_o _ _ hx
      obtain ⟨n1, n2, n3, n4⟩ := mwP_ne hc fs cUw w0 f (P.2.1 w) o (h.lzr wT) (Or.inr oT) (Ne.symm aw) hwo'
      have ePc : mwP fs (cutR P w) f (P.2.1 w) o = mwP fs P f (P.2.1 w) o := by
        have := n4 (P.2.1 w) P.2.2
        have e2 : ((cutR P w).1, u1 (cutR P w).2.1 w (P.2.1 w), P.2.2) = P := by
          show (P.1, u1 (u1 P.2.1 w 0) w (P.2.1 w), P.2.2) = P
          rw [u1_u1, u1_id]
        rw [e2] at this
        exact this.symm
      have A1 : P.2.1 w ≠ 0 → T (P.2.1 w) = κ ∧ (cutR P w).2.2 (P.2.1 w) = 0 := fun q => ⟨(ac q).1, by rw [cU, if_pos ⟨rfl, q⟩]⟩
      have A2 : o ≠ 0 → T o = κ ∧ (cutR P w).2.2 o = 0 := fun _ => ⟨hoF.1, by rw [cU, if_neg (fun g => ao g.1.symm)]; exact hoF.2⟩
      have A3 : u1 z w (z w - z (P.2.1 w)) (P.2.1 w) + u1 z w (z w - z (P.2.1 w)) o ≤ f := by rw [za, zo]; omega
      obtain ⟨r1, r2, r3, r4, r5⟩ := ih (cutR P w) (u1 z w (z w - z (P.2.1 w))) (P.2.1 w) o hc A1 A2 (fun _ => ao) A3
      obtain ⟨z1, i1, i2, i3, i4, -⟩ := mel_ok hT fs κ0 f (cutR P w) (u1 z w (z w - z (P.2.1 w))) (P.2.1 w) o hc A1 A2 (fun _ => ao) A3
      rw [ePc] at i1 i2 i3 i4 n1 n2 n3 r1 r2 r3 r4 r5
      rw [za, zo] at i3 r1
      generalize (mwP fs P f (P.2.1 w) o).1 = l at *
      generalize (mwP fs P f (P.2.1 w) o).2 = q at *
      obtain ⟨j1, j2, j3, j4, j5⟩ := i4 w wT cUw (Ne.symm aw) hwo'
      have nw : ∀ p, p ∈ l → p.1 ≠ w ∧ p.2 ≠ w := fun p hp => ⟨fun g => n1 (List.mem_map.mpr ⟨p, hp, g⟩), fun g => n2 (List.mem_map.mpr ⟨p, hp, g⟩)⟩
      refine ⟨fun p hp => ?_, List.pairwise_cons.mpr ⟨fun p hp => ?_, ?_⟩, fun g => ?_, r4, ?_⟩
      · rw [List.mem_cons] at hp
        rcases hp with g | g
        · rw [g]; exact ⟨hwF.1, hoF.1, by show z w + z o ≤ z a + z b; omega⟩
        · obtain ⟨t1, t2, t3⟩ := r1 p g
          rw [zz1 _ (nw p g).1, zz1 _ (nw p g).2] at t3
          exact ⟨t1, t2, by omega⟩
      · have tp : T p.1 ≠ 0 := by rw [(r1 p hp).1]; exact κ0
        exact ⟨Ne.symm (nw p hp).1, Ne.symm (nw p hp).2, (chw p.1 tp).1, (chw p.1 tp).2⟩
      · refine List.Pairwise.imp_of_mem (fun {x y} hx hy g => ?_) r2
        rw [cR _ (nw y hy).1] at g
        exact g
      · rw [List.map_cons, List.mem_cons] at g
        rcases g with g | g
        · exact n3 g.symm
        · exact r3 g
      · have hq : LZ T (hd l q) := by
          by_cases g : hd l q = 0
          · exact Or.inl g
          · exact Or.inr (by rw [(i2 g).1]; exact κ0)
        have ez : mz (u1 z w (z w - z (P.2.1 w))) l (hd l q) = z (P.2.1 w) + z o := by
          rw [← i3, ← r5.can hT.2 hq, ← i1.can hT.2 hq]
        have := r5.lnk (w := w) (m := hd l q) wT j3 (j2.trans cRw) (fun g => ⟨(i2 g).1.trans hwF.1.symm, (i2 g).2, Ne.symm j5⟩)
        have e2 : u1 (mz (u1 z w (z w - z (P.2.1 w))) l) w (mz (u1 z w (z w - z (P.2.1 w))) l w + mz (u1 z w (z w - z (P.2.1 w))) l (hd l q)) = mz z ((w, o) :: l) := by
          rw [ez, mz_o _ l w n1, u1_s, mz_u1 z _ l n1 n2, u1_u1]
          show u1 (mz z l) w _ = u1 (mz z l) w (z w + z o)
          congr 1
          omega
        rw [e2] at this
        exact this
/-- what melding leaves as it is -/
def HpS (c c' : CS) : Prop := c'.ck = c.ck ∧ c'.cc = c.cc ∧ c'.nv = c.nv ∧ c'.f1 = c.f1 ∧ c'.l1 = c.l1 ∧ c'.vn = c.vn ∧ c'.vx = c.vx ∧ c'.kd = c.kd ∧ c'.ro = c.ro ∧ c'.he = c.he ∧ c'.vs = c.vs ∧ c'.la = c.la ∧ c'.tl = c.tl ∧ c'.dp = c.dp ∧ c'.lg = c.lg ∧ c'.pa = c.pa ∧ c'.K = c.K ∧ c'.ar = c.ar ∧ c'.cn = c.cn ∧ c'.E = c.E ∧ c'.pu = c.pu ∧ c'.fk = c.fk ∧ c'.fv = c.fv ∧ c'.N = c.N ∧ c'.rO = c.rO ∧ c'.rP = c.rP ∧ c'.rT = c.rT ∧ c'.rQ = c.rQ
theorem HpS.refl (c : CS) : HpS c c := ⟨rfl, rfl, rfl, rfl, rfl, rfl, rfl, rfl, rfl, rfl, rfl, rfl, rfl, rfl, rfl, rfl, rfl, rfl, rfl, rfl, rfl, rfl, rfl, rfl, rfl, rfl, rfl, rfl⟩
theorem HpS.trans {c c' c'' : CS} (h : HpS c c') (g : HpS c' c'') : HpS c c'' := by
  obtain ⟨a1, a2, a3, a4, a5, a6, a7, a8, a9, a10, a11, a12, a13, a14, a15, a16, a17, a18, a19, a20, a21, a22, a23, a24, a25, a26, a27, a28⟩ := h
  obtain ⟨b1, b2, b3, b4, b5, b6, b7, b8, b9, b10, b11, b12, b13, b14, b15, b16, b17, b18, b19, b20, b21, b22, b23, b24, b25, b26, b27, b28⟩ := g
  exact ⟨b1.trans a1, b2.trans a2, b3.trans a3, b4.trans a4, b5.trans a5, b6.trans a6, b7.trans a7, b8.trans a8, b9.trans a9, b10.trans a10, b11.trans a11, b12.trans a12, b13.trans a13, b14.trans a14, b15.trans a15, b16.trans a16, b17.trans a17, b18.trans a18, b19.trans a19, b20.trans a20, b21.trans a21, b22.trans a22, b23.trans a23, b24.trans a24, b25.trans a25, b26.trans a26, b27.trans a27, b28.trans a28⟩
theorem cstp_S (s : Nat) (c : CS) (p : Nat) (x : Nat × Nat) : HpS c (cstp s c p x) ∧ ∀ r, r ≠ s → (cstp s c p x).hy r = c.hy r := by
  unfold cstp
  by_cases p0 : p = 0
  · rw [if_pos p0]
    refine ⟨⟨rfl, rfl, rfl, rfl, rfl, rfl, rfl, rfl, rfl, rfl, rfl, rfl, rfl, rfl, rfl, rfl, rfl, rfl, rfl, rfl, rfl, rfl, rfl, rfl, rfl, rfl, rfl, rfl⟩, fun r hr => ?_⟩
    show u1 (u1 c.hy s _) s _ r = c.hy r
    rw [u1_u1, u1_o _ _ hr]
  · rw [if_neg p0]
    refine ⟨⟨rfl, rfl, rfl, rfl, rfl, rfl, rfl, rfl, rfl, rfl, rfl, rfl, rfl, rfl, rfl, rfl, rfl, rfl, rfl, rfl, rfl, rfl, rfl, rfl, rfl, rfl, rfl, rfl⟩, fun r hr => ?_⟩
    show u1 (u1 c.hy s _) s _ r = c.hy r
    rw [u1_u1, u1_o _ _ hr]
/-- heavy ones to come -/
def hnC (P : PT) (c : CS) (x : Nat × Nat) : Nat := if c.cz x.1 + c.cz x.2 < 2 * zC c (P.1 x.1) then 1 else 0
theorem crun_S (s : Nat) (P : PT) : ∀ (l : List (Nat × Nat)) (c : CS) (p : Nat), l.Pairwise (fun x y => x.1 ≠ y.1 ∧ x.1 ≠ y.2 ∧ x.1 ≠ P.2.1 y.1 ∧ x.1 ≠ P.1 y.1) → (∀ x, x ∈ l → c.P.1 x.1 = P.1 x.1 ∧ c.P.2.1 x.1 = P.2.1 x.1 ∧ P.1 x.1 ≠ x.1) → p ∉ l.map Prod.fst → (l.map (fun x => hvC c x.1)).sum ≤ c.hy s →
    HpS c (crun s c p l).1 ∧ (∀ r, r ≠ s → (crun s c p l).1.hy r = c.hy r) ∧ (crun s c p l).1.cz = mz c.cz l ∧ (crun s c p l).1.st = u1 c.st s (c.st s + nI l.length) ∧ (crun s c p l).1.hy s + (l.map (fun x => hvC c x.1)).sum = c.hy s + (l.map (hnC P c)).sum := by
  intro l
  induction l with
  | nil =>
    intro c p _ _ _ _
    refine ⟨HpS.refl c, fun _ _ => rfl, rfl, ?_, rfl⟩
    show c.st = u1 c.st s (c.st s + nI 0)
    rw [show c.st s + nI 0 = c.st s from Int32.add_zero _, u1_id]
  | cons x t ih =>
    intro c p h2 h1 hp h4
    obtain ⟨x1, x2, x3⟩ := h1 x List.mem_cons_self
    obtain ⟨e1, e2, e3, e4, e5, e6, e7, e8⟩ := cstp_1 s c p x
    obtain ⟨g1, g2⟩ := cstp_S s c p x
    rw [List.pairwise_cons] at h2
    rw [List.map_cons, List.mem_cons] at hp
    have px : ∀ y, y ∈ t → y.1 ≠ p := fun y hy q => hp (Or.inr (List.mem_map.mpr ⟨y, hy, q⟩))
    have hvs : ∀ y, y ∈ t → hvC (cstp s c p x) y.1 = hvC c y.1 := by
      intro y hy
      obtain ⟨p1, p2, p3, p4⟩ := h2.1 y hy
      have y5 := (h1 y (List.mem_cons_of_mem _ hy)).2.1
      unfold hvC zC
      rw [e2, e4, u1_o c.cz _ (Ne.symm p1), u1_o c.P.2.1 _ (Ne.symm p1), y5, u1_o c.cz _ (Ne.symm p3)]
    have hns : ∀ y, y ∈ t → hnC P (cstp s c p x) y = hnC P c y := by
      intro y hy
      obtain ⟨p1, p2, p3, p4⟩ := h2.1 y hy
      unfold hnC zC
      rw [e4, u1_o c.cz _ (Ne.symm p1), u1_o c.cz _ (Ne.symm p2), u1_o c.cz _ (Ne.symm p4)]
    have s1 : (t.map (fun y => hvC (cstp s c p x) y.1)).sum = (t.map (fun y => hvC c y.1)).sum := congrArg List.sum (List.map_congr_left (fun y hy => hvs y hy))
    have s2 : (t.map (hnC P (cstp s c p x))).sum = (t.map (hnC P c)).sum := congrArg List.sum (List.map_congr_left (fun y hy => hns y hy))
    rw [List.map_cons, List.sum_cons] at h4
    have k := cPo_hy (c.sst (u1 c.st s (c.st s + 1))) s x.1 x.2
    have k2 : hvC (c.sst (u1 c.st s (c.st s + 1))) x.1 = hvC c x.1 := rfl
    have k3 : (c.sst (u1 c.st s (c.st s + 1))).hy = c.hy := rfl
    have k4 : (c.sst (u1 c.st s (c.st s + 1))).cz = c.cz := rfl
    have k5 : (c.sst (u1 c.st s (c.st s + 1))).P = c.P := rfl
    rw [k2, k3, if_pos (by omega), k4, k5, ← cstp_hy s c p x, x1, u1_o c.cz _ x3] at k
    have k6 : (if c.cz x.1 + c.cz x.2 < 2 * (if P.1 x.1 = 0 then 0 else c.cz (P.1 x.1)) then 1 else 0) = hnC P c x := rfl
    rw [k6] at k
    obtain ⟨i1, i2, i3, i4, i5⟩ := ih (cstp s c p x) x.1 h2.2 (fun y hy => by
      obtain ⟨p1, p2, p3, p4⟩ := h2.1 y hy
      obtain ⟨y1, y2, y3⟩ := h1 y (List.mem_cons_of_mem _ hy)
      refine ⟨?_, ?_, y3⟩
      · rw [e1]
        by_cases p0 : p = 0
        · rw [if_pos p0]; exact y1
        · rw [if_neg p0, u1_o _ _ (px y hy)]; exact y1
      · rw [e2, u1_o _ _ (Ne.symm p1)]; exact y2) (fun q => by
      obtain ⟨y, hy, e⟩ := List.mem_map.mp q
      exact (h2.1 y hy).1 e.symm) (by rw [s1]; omega)
    have tn1 : x.1 ∉ t.map Prod.fst := fun q => by
      obtain ⟨y, hy, e⟩ := List.mem_map.mp q
      exact (h2.1 y hy).1 e.symm
    have tn2 : x.1 ∉ t.map Prod.snd := fun q => by
      obtain ⟨y, hy, e⟩ := List.mem_map.mp q
      exact (h2.1 y hy).2.1 e.symm
    refine ⟨g1.trans i1, fun r hr => (i2 r hr).trans (g2 r hr), ?_, ?_, ?_⟩
    · refine i3.trans ?_
      rw [e4, mz_u1 _ _ t tn1 tn2]
      rfl
    · refine i4.trans ?_
      rw [e8, u1_s, u1_u1, List.length_cons, show nI (t.length + 1) = nI 1 + nI t.length by rw [Nat.add_comm]; exact Int32.ofNat_add 1 t.length, ← Int32.add_assoc]
      rfl
    · rw [s1, s2] at i5
      rw [List.map_cons, List.sum_cons, List.map_cons, List.sum_cons]
      show (crun s (cstp s c p x) x.1 t).1.hy s + _ = _
      omega
theorem crun_2 (s : Nat) : ∀ (l : List (Nat × Nat)) (c : CS) (p : Nat), (l = [] ∧ (crun s c p l).2 = p) ∨ (l ≠ [] ∧ (crun s c p l).2 ∈ l.map Prod.fst) := by
  intro l
  induction l with
  | nil => intro c p; exact Or.inl ⟨rfl, rfl⟩
  | cons x t ih =>
    intro c p
    refine Or.inr ⟨List.cons_ne_nil x t, ?_⟩
    rw [List.map_cons, List.mem_cons]
    show (crun s (cstp s c p x) x.1 t).2 = x.1 ∨ (crun s (cstp s c p x) x.1 t).2 ∈ _
    rcases ih (cstp s c p x) x.1 with q | q
    · exact Or.inl q.2
    · exact Or.inr q.2
theorem Sm_ge {κ : Nat} (κ0 : κ ≠ 0) (f : Nat → Nat) : ∀ (l : List Nat) (T : Nat → Nat), TN T → l.Nodup → (∀ x, x ∈ l → T x = κ) → (l.map f).sum ≤ Sm T κ f := by
  intro l
  induction l with
  | nil => intro T _ _ _; exact Nat.zero_le _
  | cons x t ih =>
    intro T hT hn hx
    rw [List.nodup_cons] at hn
    have tx := hx x List.mem_cons_self
    rw [List.map_cons, List.sum_cons, Sm_del hT κ0 f tx]
    have x0 : x ≠ 0 := fun q => by rw [q, hT.1] at tx; exact κ0 tx.symm
    have x2 : x ≤ 20002 := hT.2 x (by rw [tx]; exact κ0)
    have := ih (u1 T x 0) (TN_u1 hT x0 x2) hn.2 (fun y hy => by
      rw [u1_o _ _ (fun q => hn.1 (by rw [← q]; exact hy))]
      exact hx y (List.mem_cons_of_mem _ hy))
    omega
