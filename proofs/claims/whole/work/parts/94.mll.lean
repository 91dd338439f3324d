-- melding, both sides
theorem cfin_P (s : Nat) (c : CS) (l : List (Nat × Nat)) (q : Nat) : (cfin s c l q).P = Fp s c 0 l q := by
  unfold cfin Fp
  by_cases g : (crun s c 0 l).2 = 0
  · rw [if_pos g, if_pos g]
  · rw [if_neg g, if_neg g]; rfl
theorem cfin_S (s : Nat) (c : CS) (l : List (Nat × Nat)) (q : Nat) : HpS (crun s c 0 l).1 (cfin s c l q) ∧ (cfin s c l q).hy = (crun s c 0 l).1.hy ∧ (cfin s c l q).cz = (crun s c 0 l).1.cz ∧ (cfin s c l q).st = (crun s c 0 l).1.st := by
  unfold cfin
  by_cases g : (crun s c 0 l).2 = 0
  · rw [if_pos g]; exact ⟨HpS.refl _, rfl, rfl, rfl⟩
  · rw [if_neg g]
    exact ⟨⟨rfl, rfl, rfl, rfl, rfl, rfl, rfl, rfl, rfl, rfl, rfl, rfl, rfl, rfl, rfl, rfl, rfl, rfl, rfl, rfl, rfl, rfl, rfl, rfl, rfl, rfl, rfl, rfl⟩, rfl, rfl, rfl⟩
section Mll
variable (L : Nat) (xs : Nat → Int32)
set_option maxHeartbeats 4000000 in
theorem cmel {d : DS} (hw : DW d) {s : Nat} (hsd : d.sid (d.sa (s + 1)) = s + 1) (c : CS) (hk : c.kd s = 2 ∨ c.kd s = 3) {Q : PT} {T z : Nat → Nat} (hT : TN T) (hW : WF Q T z) {κ : Nat} (κ0 : κ ≠ 0) (hD : ∀ x, LZ T x → d.nid (d.ph x) = x) (hcc : ∀ x, T x ≠ 0 → c.cc x < 2 ^ 31) {a e : Nat} (ha : a ≠ 0 → T a = κ ∧ Q.2.2 a = 0) (he : e ≠ 0 → T e = κ ∧ Q.2.2 e = 0) (hne : a ≠ 0 → a ≠ e) (hP : ∀ x, T x ≠ 0 → c.P.1 x = Q.1 x ∧ c.P.2.1 x = Q.2.1 x) (hU : ∀ x, T x ≠ 0 → x ≠ a → x ≠ e → c.P.2.2 x = Q.2.2 x) (hz : ∀ x, T x = κ → c.cz x = z x) (hhy : c.hy s = Sm T κ (hv Q z)) {W : List (Nat × Nat) × Nat} (hWe : W = mwP (fsM (c.kd s) c.ck c.cc) Q 20002 a e) :
    ∃ (c' : CS) (z' : Nat → Nat), (∀ b : AH, (∀ x, d.nid x ≠ 0 → tg b x = 4) → tg b (d.sa (s + 1)) = 3 → XM L xs 128 [.ref (d.sa (s + 1)), .ref (d.ph a), .ref (d.ph e)] (cl b d c) = some (cl b d c', some (.ref (d.ph (hd W.1 W.2))))) ∧ HpS c c' ∧ c'.st = u1 c.st s (c.st s + nI W.1.length) ∧ (∀ r, r ≠ s → c'.hy r = c.hy r) ∧ c'.hy s = Sm T κ (hv (mel Q W.1 W.2) z') ∧ WF (mel Q W.1 W.2) T z' ∧ (∀ x, T x = κ → c'.cz x = z' x) ∧ (∀ x, T x ≠ κ → c'.cz x = c.cz x ∧ z' x = z x) ∧ (∀ x, T x ≠ 0 → c'.P.1 x = (mel Q W.1 W.2).1 x ∧ c'.P.2.1 x = (mel Q W.1 W.2).2.1 x ∧ (x ≠ hd W.1 W.2 → c'.P.2.2 x = (mel Q W.1 W.2).2.2 x)) ∧ c'.P.2.2 (hd W.1 W.2) = c.P.2.2 (hd W.1 W.2) ∧ (hd W.1 W.2 ≠ 0 → T (hd W.1 W.2) = κ ∧ (mel Q W.1 W.2).2.2 (hd W.1 W.2) = 0) ∧ z' (hd W.1 W.2) = z a + z e ∧ (∀ x, T x ≠ 0 → (mel Q W.1 W.2).2.2 x = 0 → x = hd W.1 W.2 ∨ (Q.2.2 x = 0 ∧ x ≠ a ∧ x ≠ e)) ∧ (∀ x, T x ≠ κ → (mel Q W.1 W.2).1 x = Q.1 x ∧ (mel Q W.1 W.2).2.1 x = Q.2.1 x ∧ (mel Q W.1 W.2).2.2 x = Q.2.2 x) ∧ z a + z e ≤ 20002 := by
  have hza : z a + z e ≤ 20002 := by
    obtain ⟨z1, i1, i2, i3, -⟩ := mel_ok hT (fsM (c.kd s) c.ck c.cc) κ0 (z a + z e) Q z a e hW ha he hne (Nat.le_refl _)
    rw [← i3]
    refine i1.z_le hT.2 ?_
    by_cases g : hd (mwP (fsM (c.kd s) c.ck c.cc) Q (z a + z e) a e).1 (mwP (fsM (c.kd s) c.ck c.cc) Q (z a + z e) a e).2 = 0
    · exact Or.inl g
    · exact Or.inr (by rw [(i2 g).1]; exact κ0)
  have lza : LZ T a := by
    by_cases g : a = 0
    · exact Or.inl g
    · exact Or.inr (by rw [(ha g).1]; exact κ0)
  have lze : LZ T e := by
    by_cases g : e = 0
    · exact Or.inl g
    · exact Or.inr (by rw [(he g).1]; exact κ0)
  obtain ⟨z1, i1, i2, i3, i4, i5, i6, i7⟩ := mel_ok hT (fsM (c.kd s) c.ck c.cc) κ0 20002 Q z a e hW ha he hne hza
  obtain ⟨r1, r2, r3, r4, r5⟩ := mwP_run hT (fsM (c.kd s) c.ck c.cc) κ0 20002 Q z a e hW ha he hne hza
  obtain ⟨v1, v2⟩ := mwP_cv (fsM (c.kd s) c.ck c.cc) Q hW 20002 a e lza lze hza
  have cm := fun (b : AH) tN ts hR hl => c128 L xs (b := b) (G := fun x => T x = κ) hw tN hsd ts c hk hW hD hcc lza lze hza hR hl
  rw [← hWe] at i1 i2 i3 i4 i5 i6 i7 r1 r2 r3 r4 r5 v1 v2 cm
  have kT : ∀ x, T x = κ → T x ≠ 0 := fun x hx => by rw [hx]; exact κ0
  have k0 : ∀ x, T x = κ → x ≠ 0 := fun x hx => hW.n0 (kT x hx)
  have z0 : z 0 = 0 := hW.2.1
  have chk : ∀ x, T x = κ → (Q.1 x = 0 ∨ T (Q.1 x) = κ) ∧ (Q.2.1 x = 0 ∨ T (Q.2.1 x) = κ) := fun x hx => by
    obtain ⟨w1, w2, -⟩ := hW.2.2 x (kT x hx)
    refine ⟨?_, ?_⟩
    · by_cases g : Q.1 x = 0
      · exact Or.inl g
      · exact Or.inr ((w1 g).2.trans hx)
    · by_cases g : Q.2.1 x = 0
      · exact Or.inl g
      · exact Or.inr ((w2 g).2.trans hx)
  have zC' : ∀ x, (x = 0 ∨ T x = κ) → zC c x = z x := fun x hx => by
    unfold zC
    by_cases g : x = 0
    · rw [if_pos g, g, z0]
    · rw [if_neg g]; exact hz x (hx.resolve_left g)
  have hvE : ∀ x, T x = κ → hvC c x = hv Q z x := fun x hx => by
    unfold hvC hv
    rw [(hP x (kT x hx)).2, zC' _ (chk x hx).2, hz x hx]
  have hnE : ∀ x : Nat × Nat, T x.1 = κ → T x.2 = κ → hnC Q c x = hn Q z x := fun x h1 h2 => by
    unfold hnC hn
    rw [zC' _ (chk x.1 h1).1, hz _ h1, hz _ h2]
  have sv : (W.1.map (fun x => hvC c x.1)).sum = (W.1.map (fun p => hv Q z p.1)).sum := congrArg List.sum (List.map_congr_left (fun y hy => hvE y.1 (r1 y hy).1))
  have sn : (W.1.map (hnC Q c)).sum = (W.1.map (hn Q z)).sum := congrArg List.sum (List.map_congr_left (fun y hy => hnE y (r1 y hy).1 (r1 y hy).2.1))
  have nd : (W.1.map Prod.fst).Nodup := by
    show List.Pairwise (fun x y => x ≠ y) _
    rw [List.pairwise_map]
    exact r2.imp (fun g => g.1)
  have svl : (W.1.map (fun p => hv Q z p.1)).sum ≤ Sm T κ (hv Q z) := by
    have := Sm_ge κ0 (hv Q z) (W.1.map Prod.fst) T hT nd (fun x hx => by
      obtain ⟨y, hy, ey⟩ := List.mem_map.mp hx
      rw [← ey]; exact (r1 y hy).1)
    rw [List.map_map] at this
    exact this
  have hR : RunOK (fun x => T x = κ) d Q s c W.1 := by
    refine ⟨fun x hx => ?_, r2.imp (fun g => ⟨g.1, g.2.1, g.2.2.1⟩), fun x hx => ?_, by rw [sv, hhy]; exact svl⟩
    · obtain ⟨t1, t2, t3⟩ := r1 x hx
      refine ⟨k0 _ t1, k0 _ t2, t1, hD _ (Or.inr (kT _ t2)), (hP _ (kT _ t1)).2, ?_⟩
      rw [hz _ t1, hz _ t2]
      omega
    · obtain ⟨p1, p2⟩ := hP x (kT x hx)
      have zl := hW.z_le hT.2 (Or.inr (kT x hx))
      refine ⟨hD x (Or.inr (kT x hx)), by rw [p1]; exact (chk x hx).1, by rw [p2]; exact (chk x hx).2, by rw [hz x hx]; omega⟩
  obtain ⟨s1, s2, s3, s4, s5⟩ := crun_S s Q W.1 c 0 r2 (fun x hx => by
    have t1 := (r1 x hx).1
    obtain ⟨w1, w2, w3, w4, w5⟩ := hW.2.2 x.1 (kT _ t1)
    refine ⟨(hP _ (kT _ t1)).1, (hP _ (kT _ t1)).2, fun q => ?_⟩
    rw [q] at w5
    omega) (fun q => by
    obtain ⟨y, hy, ey⟩ := List.mem_map.mp q
    exact k0 _ (r1 y hy).1 ey) (by rw [sv, hhy]; exact svl)
  have hrun := run_mel s W.2 W.1 c 0 Q (fun x => T x = 0) (fun x => x = a ∨ x = e) (fun x hx => hP x hx) (fun x hx hn => hU x hx (fun g => hn (Or.inl g)) (fun g => hn (Or.inr g))) v2 (fun x hx => by
    obtain ⟨y, hy, ey⟩ := List.mem_map.mp hx
    rw [← ey]
    exact ⟨kT _ (r1 y hy).1, k0 _ (r1 y hy).1⟩) (fun g => absurd rfl g) nd r3 v1
  obtain ⟨f1, f2, f3, f4⟩ := cfin_S s c W.1 W.2
  have hlast : d.nid (d.ph (crun s c 0 W.1).2) = (crun s c 0 W.1).2 := by
    rcases crun_2 s W.1 c 0 with q | q
    · rw [q.2, hw.1.1]; exact hw.1.2.2.2.1
    · obtain ⟨y, hy, ey⟩ := List.mem_map.mp q.2
      rw [← ey]
      exact hD _ (Or.inr (kT _ (r1 y hy).1))
  have htop : (if (crun s c 0 W.1).2 = 0 then W.2 else hd W.1 0) = hd W.1 W.2 := by
    rcases crun_2 s W.1 c 0 with q | q
    · rw [if_pos q.2, q.1]; rfl
    · obtain ⟨y, hy, ey⟩ := List.mem_map.mp q.2
      rw [if_neg (by rw [← ey]; exact k0 _ (r1 y hy).1)]
      cases hq : W.1 with
      | nil => exact absurd hq q.1
      | cons x t => rfl
  refine ⟨cfin s c W.1 W.2, mz z W.1, fun b tN ts => ?_, s1.trans f1, f4.trans s4, fun r hr => by rw [f2]; exact s2 r hr, ?_, r5, fun x hx => ?_, fun x hx => ?_, fun x hx => ?_, ?_, i2, ?_, i6, fun x hx => ⟨(i5 x hx).1, (i5 x hx).2.1, (i5 x hx).2.2.1⟩, hza⟩
  · have := cm b tN ts hR hlast
    rw [htop] at this
    exact this
  · have e1 : Sm T κ (hv (mel Q W.1 W.2) (mz z W.1)) = Sm T κ (hv (mel Q W.1 W.2) z1) := Sm_congr hT κ0 (fun x hx => by
      have c1 : ∀ y, LZ T y → mz z W.1 y = z1 y := fun y hy => by rw [← r5.can hT.2 hy, ← i1.can hT.2 hy]
      unfold hv
      rw [c1 x (Or.inr (kT x hx)), c1 _ (i1.lzr (kT x hx))])
    rw [sv, sn] at s5
    rw [f2, e1]
    omega
  · rw [f3, s3]
    have : ∀ (l : List (Nat × Nat)), (∀ p, p ∈ l → T p.1 = κ ∧ T p.2 = κ) → ∀ x, T x = κ → mz c.cz l x = mz z l x := by
      intro l
      induction l with
      | nil => intro _ x hx; exact hz x hx
      | cons y t ih =>
        intro hl x hx
        obtain ⟨y1, y2⟩ := hl y List.mem_cons_self
        show u1 (mz c.cz t) y.1 _ x = u1 (mz z t) y.1 _ x
        unfold u1
        rw [hz _ y1, hz _ y2, ih (fun p hp => hl p (List.mem_cons_of_mem _ hp)) x hx]
    exact this W.1 (fun p hp => ⟨(r1 p hp).1, (r1 p hp).2.1⟩) x hx
  · have nx : x ∉ W.1.map Prod.fst := fun q => by
      obtain ⟨y, hy, ey⟩ := List.mem_map.mp q
      exact hx (by rw [← ey]; exact (r1 y hy).1)
    rw [f3, s3]
    exact ⟨mz_o _ _ _ nx, mz_o _ _ _ nx⟩
  · obtain ⟨m1, m2, m3⟩ := hrun x hx
    rw [cfin_P]
    exact ⟨m1, m2, fun g => m3 g (hW.n0 hx)⟩
  · rw [cfin_P]
    exact Fp_U0 s W.2 W.1 c nd r3
  · have hq : LZ T (hd W.1 W.2) := by
      by_cases g : hd W.1 W.2 = 0
      · exact Or.inl g
      · exact Or.inr (by rw [(i2 g).1]; exact κ0)
    rw [← i3, ← r5.can hT.2 hq, ← i1.can hT.2 hq]
theorem mmel {h : AH} (hb : MB h) (m : MS) {Q : PT} {T z : Nat → Nat} (hW : WF Q T z) (e1 : Q.1 = m.P.1) (e2 : Q.2.1 = m.P.2.1) (hT : TN T) {s : Nat} (hs : s < 40) (hk : m.kd s ≤ 5) (hcs : ∀ x, T x ≠ 0 → m.cs x < 2 ^ 31) (hP : BP m.P) {κ : Nat} (κ0 : κ ≠ 0) {a e : Nat} (ha : a ≠ 0 → T a = κ) (he : e ≠ 0 → T e = κ) (hza : z a + z e ≤ 20002) {fs : Nat → Nat → Bool} (hfs : ∀ x y, T x = κ → T y = κ → fsM (m.kd s) m.ky m.cs x y = fs x y) {W : List (Nat × Nat) × Nat} (hWe : W = mwP fs Q 20002 a e) :
    ∃ q : SCT, XM L xs 90 [.ref 8, .int (nI s), .int (en a), .int (en e)] (ml h m) = some (ml h (((m.ssp (m.sp + W.1.length)).sP ((mel Q W.1 W.2).1, (mel Q W.1 W.2).2.1, m.P.2.2)).sW q), some (.int (en (hd W.1 W.2)))) := by
  have hQ : (m.P.1, m.P.2.1, Q.2.2) = Q := by rw [← e1, ← e2]
  have ew : mwP (fsM (m.kd s) m.ky m.cs) m.P 20002 a e = W := by
    rw [hWe]
    exact mwP_cg hW κ0 (fun x _ => by rw [e2]) hfs 20002 a e ha he
  obtain ⟨q, hq⟩ := m_90 L xs hb m (up := Q.2.2) (T := T) (z := z) (by rw [hQ]; exact hW) hT hs hk hcs hP κ0 ha he hza hza
  rw [mwP_F, ew, List.length_map] at hq
  obtain ⟨b1, b2, b3, b4⟩ := bk_mel W.2 W.1 m.P Q (fun _ => False) e1.symm (fun x _ => by rw [e2])
  have b5 : (bkF m.P (W.1.map Prod.fst) W.2).1 = ((mel Q W.1 W.2).1, (mel Q W.1 W.2).2.1, m.P.2.2) := Prod.ext b2 (Prod.ext (funext (fun x => b3 x (fun g => g))) b4)
  dsimp only at hq
  rw [b1, b5] at hq
  exact ⟨q, hq⟩
end Mll
