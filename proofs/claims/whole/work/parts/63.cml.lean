-- the class's melded: its loop
theorem cstp_1 (s : Nat) (c : CS) (p : Nat) (x : Nat × Nat) : (cstp s c p x).P.1 = (if p = 0 then c.P.1 else u1 c.P.1 p x.1) ∧ (cstp s c p x).P.2.1 = u1 c.P.2.1 x.1 (c.P.1 x.1) ∧ (cstp s c p x).P.2.2 = (if p = 0 then c.P.2.2 else if x.1 = 0 then c.P.2.2 else u1 c.P.2.2 x.1 p) ∧ (cstp s c p x).cz = u1 c.cz x.1 (c.cz x.1 + c.cz x.2) ∧ (cstp s c p x).ck = c.ck ∧ (cstp s c p x).cc = c.cc ∧ (cstp s c p x).kd = c.kd ∧ (cstp s c p x).st = u1 c.st s (c.st s + 1) := by
  unfold cstp
  by_cases p0 : p = 0
  · simp only [p0, if_true]
    exact ⟨rfl, rfl, rfl, rfl, rfl, rfl, rfl, rfl⟩
  · simp only [p0, if_false]
    exact ⟨rfl, rfl, rfl, rfl, rfl, rfl, rfl, rfl⟩
theorem cPo_hy (c : CS) (s w o : Nat) : (cPo c s w o).hy s + hvC c w = (if hvC c w ≤ c.hy s then c.hy s else hvC c w) + (if c.cz w + c.cz o < 2 * (if c.P.1 w = 0 then 0 else u1 c.cz w (c.cz w + c.cz o) (c.P.1 w)) then 1 else 0) := by
  have e : (cPo c s w o).hy s = (c.hy s - hvC c w) + (if c.cz w + c.cz o < 2 * (if c.P.1 w = 0 then 0 else u1 c.cz w (c.cz w + c.cz o) (c.P.1 w)) then 1 else 0) := by
    unfold cPo
    show u1 (u1 c.hy s (c.hy s - hvC c w)) s (u1 c.hy s (c.hy s - hvC c w) s + hvC _ w) s = _
    rw [u1_s, u1_s]
    unfold hvC zC
    show _ + (if u1 c.cz w (c.cz w + c.cz o) w < 2 * (if u1 c.P.2.1 w (c.P.1 w) w = 0 then 0 else u1 c.cz w (c.cz w + c.cz o) (u1 c.P.2.1 w (c.P.1 w) w)) then 1 else 0) = _
    rw [u1_s, u1_s]
  rw [e]
  by_cases q : hvC c w ≤ c.hy s
  · rw [if_pos q]; omega
  · rw [if_neg q]; omega
theorem cstp_hy (s : Nat) (c : CS) (p : Nat) (x : Nat × Nat) : (cstp s c p x).hy s = (cPo (c.sst (u1 c.st s (c.st s + 1))) s x.1 x.2).hy s := by
  unfold cstp
  by_cases p0 : p = 0
  · rw [if_pos p0]
  · rw [if_neg p0]; rfl
def cfin (s : Nat) (c : CS) (l : List (Nat × Nat)) (q : Nat) : CS := if (crun s c 0 l).2 = 0 then (crun s c 0 l).1 else (crun s c 0 l).1.sP (stl (crun s c 0 l).1.P (crun s c 0 l).2 q)
/-- what the loop needs of the pairs to come -/
def RunOK (G : Nat → Prop) (d : DS) (P : PT) (s : Nat) (c : CS) (l : List (Nat × Nat)) : Prop :=
  (∀ x, x ∈ l → x.1 ≠ 0 ∧ x.2 ≠ 0 ∧ G x.1 ∧ d.nid (d.ph x.2) = x.2 ∧ c.P.2.1 x.1 = P.2.1 x.1 ∧ c.cz x.1 + c.cz x.2 < 2 ^ 28) ∧ l.Pairwise (fun x y => x.1 ≠ y.1 ∧ x.1 ≠ y.2 ∧ x.1 ≠ P.2.1 y.1) ∧ (∀ x, G x → d.nid (d.ph x) = x ∧ (c.P.1 x = 0 ∨ G (c.P.1 x)) ∧ (c.P.2.1 x = 0 ∨ G (c.P.2.1 x)) ∧ c.cz x < 2 ^ 28) ∧ (l.map (fun x => hvC c x.1)).sum ≤ c.hy s
theorem RunOK.step {G : Nat → Prop} {d : DS} {P : PT} {s : Nat} {c : CS} {x : Nat × Nat} {t : List (Nat × Nat)} (h : RunOK G d P s c (x :: t)) {p : Nat} : RunOK G d P s (cstp s c p x) t := by
  obtain ⟨h1, h2, h3, h4⟩ := h
  obtain ⟨x1, x2, x3, x4, x5, x6⟩ := h1 x List.mem_cons_self
  obtain ⟨e1, e2, e3, e4, e5, e6, e7, e8⟩ := cstp_1 s c p x
  rw [List.pairwise_cons] at h2
  have hvs : ∀ y, y ∈ t → hvC (cstp s c p x) y.1 = hvC c y.1 := by
    intro y hy
    obtain ⟨p1, p2, p3⟩ := h2.1 y hy
    have y5 := (h1 y (List.mem_cons_of_mem _ hy)).2.2.2.2.1
    unfold hvC zC
    rw [e2, e4, u1_o c.cz _ (Ne.symm p1), u1_o c.P.2.1 _ (Ne.symm p1), y5, u1_o c.cz _ (Ne.symm p3)]
  refine ⟨fun y hy => ?_, h2.2, fun y hdy => ?_, ?_⟩
  · obtain ⟨p1, p2, p3⟩ := h2.1 y hy
    obtain ⟨y1, y2, y3, y4, y5, y6⟩ := h1 y (List.mem_cons_of_mem _ hy)
    refine ⟨y1, y2, y3, y4, ?_, ?_⟩
    · rw [e2, u1_o _ _ (Ne.symm p1)]; exact y5
    · rw [e4, u1_o _ _ (Ne.symm p1), u1_o _ _ (Ne.symm p2)]; exact y6
  · obtain ⟨y0, y1, y2, y3⟩ := h3 y hdy
    rw [e1, e2, e4]
    refine ⟨y0, ?_, ?_, ?_⟩
    · by_cases p0 : p = 0
      · rw [if_pos p0]; exact y1
      · rw [if_neg p0]
        by_cases yp : y = p
        · rw [yp, u1_s]; exact Or.inr x3
        · rw [u1_o _ _ yp]; exact y1
    · by_cases yx : y = x.1
      · rw [yx, u1_s]; exact (h3 x.1 x3).2.1
      · rw [u1_o _ _ yx]; exact y2
    · by_cases yx : y = x.1
      · rw [yx, u1_s]; exact x6
      · rw [u1_o _ _ yx]; exact y3
  · have e9 : (t.map (fun y => hvC (cstp s c p x) y.1)).sum = (t.map (fun y => hvC c y.1)).sum := congrArg List.sum (List.map_congr_left (fun y hy => hvs y hy))
    rw [List.map_cons, List.sum_cons] at h4
    have k := cPo_hy (c.sst (u1 c.st s (c.st s + 1))) s x.1 x.2
    have k2 : hvC (c.sst (u1 c.st s (c.st s + 1))) x.1 = hvC c x.1 := rfl
    have k3 : (c.sst (u1 c.st s (c.st s + 1))).hy = c.hy := rfl
    rw [k2, k3, if_pos (by omega)] at k
    rw [e9, cstp_hy]
    omega
section Cml
variable (L : Nat) (xs : Nat → Int32)
set_option maxHeartbeats 2000000 in
theorem c128_loop {b : AH} {d : DS} {G : Nat → Prop} (hw : DW d) (tN : ∀ x, d.nid x ≠ 0 → tg b x = 4) {s : Nat} (hsd : d.sid (d.sa (s + 1)) = s + 1) (ts : tg b (d.sa (s + 1)) = 3) {kd : Nat} {ck : Nat → Int64} {cc : Nat → Nat} (hk : kd = 2 ∨ kd = 3) {P : PT} {T z : Nat → Nat} (hW : WF P T z) (hD : ∀ x, LZ T x → d.nid (d.ph x) = x) (hcc : ∀ x, T x ≠ 0 → cc x < 2 ^ 31) (l1 l2 : Nat) : ∀ (f a e : Nat) (c : CS) (p t : Nat) (l7 : Value), c.kd s = kd → c.ck = ck → c.cc = cc → LZ T a → LZ T e → z a + z e ≤ f → d.nid (d.ph p) = p → RunOK G d P s c (mwP (fsM kd ck cc) P f a e).1 →
    ∃ (a' e' : Nat) (l7' : Value), LZ T a' ∧ LZ T e' ∧ (if a' = 0 then e' else a') = (mwP (fsM kd ck cc) P f a e).2 ∧ X L xs 128 11 [.ref (d.sa (s + 1)), .ref l1, .ref l2, .ref (d.ph t), .ref (d.ph p), .ref (d.ph a), .ref (d.ph e), l7] [] (cl b d c) = X L xs 128 107 [.ref (d.sa (s + 1)), .ref l1, .ref l2, .ref (d.ph (if p = 0 then hd (mwP (fsM kd ck cc) P f a e).1 t else t)), .ref (d.ph (crun s c p (mwP (fsM kd ck cc) P f a e).1).2), .ref (d.ph a'), .ref (d.ph e'), l7'] [] (cl b d (crun s c p (mwP (fsM kd ck cc) P f a e).1).1) := by
  have stop : ∀ (a e : Nat) (c : CS) (p t : Nat) (l7 : Value), LZ T a → LZ T e → (a = 0 ∨ e = 0) → X L xs 128 11 [.ref (d.sa (s + 1)), .ref l1, .ref l2, .ref (d.ph t), .ref (d.ph p), .ref (d.ph a), .ref (d.ph e), l7] [] (cl b d c) = X L xs 128 107 [.ref (d.sa (s + 1)), .ref l1, .ref l2, .ref (d.ph t), .ref (d.ph p), .ref (d.ph a), .ref (d.ph e), l7] [] (cl b d c) := by
    intro a e c p t l7 ha he hae
    rw [k_128_11]
    simp only [ph0 hw (hD a ha)]
    by_cases a0 : a = 0
    · rw [if_pos a0]
    · rw [if_neg a0, k_128_16]
      simp only [ph0 hw (hD e he)]
      rcases hae with q | q
      · exact absurd q a0
      · rw [if_pos q]
  intro f
  induction f with
  | zero =>
    intro a e c p t l7 h1 h2 h3 ha he hz hp hR
    have ae : a = 0 ∨ e = 0 := by
      rcases ha with q | q
      · exact Or.inl q
      · have := hW.pos q; omega
    refine ⟨a, e, l7, ha, he, rfl, ?_⟩
    rw [stop a e c p t l7 ha he ae]
    show _ = X L xs 128 107 [.ref (d.sa (s + 1)), .ref l1, .ref l2, .ref (d.ph (if p = 0 then t else t)), .ref (d.ph p), .ref (d.ph a), .ref (d.ph e), l7] [] (cl b d c)
    rw [ite_self]
  | succ f ih =>
    intro a e c p t l7 h1 h2 h3 ha he hz hp hR
    by_cases ae : a = 0 ∨ e = 0
    · have em : mwP (fsM kd ck cc) P (f + 1) a e = ([], if a = 0 then e else a) := by
        show (if a = 0 ∨ e = 0 then _ else _) = _
        rw [if_pos ae]
      rw [em]
      refine ⟨a, e, l7, ha, he, rfl, ?_⟩
      rw [stop a e c p t l7 ha he ae]
      show _ = X L xs 128 107 [.ref (d.sa (s + 1)), .ref l1, .ref l2, .ref (d.ph (if p = 0 then t else t)), .ref (d.ph p), .ref (d.ph a), .ref (d.ph e), l7] [] (cl b d c)
      rw [ite_self]
    · have a0 : a ≠ 0 := fun q => ae (Or.inl q)
      have e0 : e ≠ 0 := fun q => ae (Or.inr q)
      have haT : T a ≠ 0 := by rcases ha with q | q; exact absurd q a0; exact q
      have heT : T e ≠ 0 := by rcases he with q | q; exact absurd q e0; exact q
      have hda := hD a ha
      have hde := hD e he
      have em : mwP (fsM kd ck cc) P (f + 1) a e = ((if fsM kd ck cc a e then a else e, if fsM kd ck cc a e then e else a) :: (mwP (fsM kd ck cc) P f (P.2.1 (if fsM kd ck cc a e then a else e)) (if fsM kd ck cc a e then e else a)).1, (mwP (fsM kd ck cc) P f (P.2.1 (if fsM kd ck cc a e then a else e)) (if fsM kd ck cc a e then e else a)).2) := by
        show (if a = 0 ∨ e = 0 then _ else _) = _
        rw [if_neg ae]
      rw [em] at hR ⊢
      have cf := c131 L xs tN hsd ts c (by rw [h1]; exact hk) a0 hda e0 hde (by rw [h3]; exact hcc a haT) (by rw [h3]; exact hcc e heT)
      rw [h1, h2, h3] at cf
      have start : ∀ l7 : Value, X L xs 128 11 [.ref (d.sa (s + 1)), .ref l1, .ref l2, .ref (d.ph t), .ref (d.ph p), .ref (d.ph a), .ref (d.ph e), l7] [] (cl b d c) = X L xs 128 55 [.ref (d.sa (s + 1)), .ref l1, .ref l2, .ref (d.ph t), .ref (d.ph p), .ref (d.ph a), .ref (d.ph e), .ref (d.ph (if fsM kd ck cc a e then a else e))] [.ref (d.ph (if fsM kd ck cc a e then e else a))] (cl b d c) := by
        intro l7
        rw [k_128_11, if_neg (fun q => a0 ((ph0 hw hda).mp q)), k_128_16, if_neg (fun q => e0 ((ph0 hw hde).mp q)), k_128_21]
        simp only [Hcl, gd_t, decide_true, Bool.and_self, HQ, HZ, ts, dS hw hsd, cc_2_54_3, cf, bI_s]
        by_cases q : fsM kd ck cc a e = true
        · simp only [q, if_true]
          rw [if_neg (by decide), k_128_32, k_128_39, if_neg (fun g => g rfl), k_128_48]
        · rw [if_neg q, if_neg q]
          rw [Bool.not_eq_true] at q
          rw [q, if_pos (by decide), k_128_37, k_128_39]
          by_cases g : d.ph e = d.ph a
          · rw [if_neg (fun g2 => g2 g), k_128_48, g]
          · rw [if_pos g, k_128_53]
      have hwT : T (if fsM kd ck cc a e then a else e) ≠ 0 := by split; exact haT; exact heT
      have hoT : T (if fsM kd ck cc a e then e else a) ≠ 0 := by split; exact heT; exact haT
      have tot : z (if fsM kd ck cc a e then a else e) + z (if fsM kd ck cc a e then e else a) = z a + z e := by
        by_cases q : fsM kd ck cc a e = true
        · rw [if_pos q, if_pos q]
        · rw [if_neg q, if_neg q]; omega
      generalize hwq : (if fsM kd ck cc a e then a else e) = w at *
      generalize hoq : (if fsM kd ck cc a e then e else a) = o at *
      have w0 := hW.n0 hwT
      have o0 := hW.n0 hoT
      have hdw := hD w (Or.inr hwT)
      have hdo := hD o (Or.inr hoT)
      have tw : tg b (d.ph w) = 4 := tN _ (by rw [hdw]; exact w0)
      obtain ⟨r1, r2, r3, r4⟩ := id hR
      obtain ⟨-, -, xg, -, x5, x6⟩ := r1 (w, o) List.mem_cons_self
      dsimp only at x5 x6 xg
      obtain ⟨-, yg1, yg2, y3⟩ := r3 w xg
      have gl : ∀ x, x = 0 ∨ G x → d.nid (d.ph x) = x := by
        intro x hx
        rcases hx with q | q
        · rw [q, hw.1.1]; exact hw.1.2.2.2.1
        · exact (r3 x q).1
      have y1 := gl _ yg1
      have y2 := gl _ yg2
      have zcb : ∀ c' : CS, c'.cz = u1 c.cz w (c.cz w + c.cz o) → zC c' (c.P.1 w) < 2 ^ 29 := by
        intro c' hc'
        unfold zC
        by_cases q : c.P.1 w = 0
        · rw [if_pos q]; decide
        · rw [if_neg q, hc']
          by_cases g : c.P.1 w = w
          · rw [g, u1_s]; omega
          · rw [u1_o _ _ g]; have := (r3 (c.P.1 w) (yg1.resolve_left q)).2.2.2; omega
      have zcr : zC c (c.P.2.1 w) < 2 ^ 29 := by
        unfold zC
        by_cases q : c.P.2.1 w = 0
        · rw [if_pos q]; decide
        · rw [if_neg q]; have := (r3 (c.P.2.1 w) (yg2.resolve_left q)).2.2.2; omega
      have hvle : hvC c w ≤ c.hy s := by
        rw [List.map_cons, List.sum_cons] at r4
        dsimp only at r4
        omega
      have po := c129 L xs hw tN hsd ts (c.sst (u1 c.st s (c.st s + 1))) w0 hdw o0 hdo y1 y2 (show c.cz w + c.cz o < 2 ^ 29 by omega) zcr (zcb _ rfl) hvle
      have run : X L xs 128 55 [.ref (d.sa (s + 1)), .ref l1, .ref l2, .ref (d.ph t), .ref (d.ph p), .ref (d.ph a), .ref (d.ph e), .ref (d.ph w)] [.ref (d.ph o)] (cl b d c) = X L xs 128 11 [.ref (d.sa (s + 1)), .ref l1, .ref l2, .ref (d.ph (if p = 0 then w else t)), .ref (d.ph w), .ref (d.ph (P.2.1 w)), .ref (d.ph o), .ref (d.ph w)] [] (cl b d (cstp s c p (w, o))) := by
        rw [k_128_55]
        simp only [Hcl, gd_t, decide_true, Bool.and_self, HQ, HZ, tw, ts, HF4, HF3, Rn d hdw w0, Rs d hsd, x5, cl_st b hw _ hsd]
        rw [k_128_74]
        simp only [Hcl, gd_t, decide_true, Bool.and_self, HQ, HZ, ts, dS hw hsd, cc_2_61_3, po, bV_s, ph0 hw hp]
        unfold cstp
        by_cases p0 : p = 0
        · rw [if_pos p0, if_pos p0, if_pos p0, k_128_87, k_128_100]
        · have tp : tg b (d.ph p) = 4 := tN _ (by rw [hp]; exact p0)
          rw [if_neg p0, if_neg p0, if_neg p0, k_128_93]
          simp only [Hcl, gd_t, decide_true, Bool.and_self, HQ, HZ, tp, dN hw hp p0, cc_2_65_4, c138 L xs hw tN (cPo (c.sst (u1 c.st s (c.st s + 1))) s w o) hp p0 hdw, bV_s, k_128_100]
      have hstep := hR.step (p := p)
      obtain ⟨q1, q2, q3, q4, q5, q6, q7, q8⟩ := cstp_1 s c p (w, o)
      obtain ⟨v1, v2, v3, v4, v5⟩ := hW.2.2 w hwT
      obtain ⟨a', e', l7', i1, i2, i3, i4⟩ := ih (P.2.1 w) o (cstp s c p (w, o)) w (if p = 0 then w else t) (.ref (d.ph w)) (by rw [q7]; exact h1) (q5.trans h2) (q6.trans h3) (hW.lzr hwT) (Or.inr hoT) (by omega) hdw hstep
      refine ⟨a', e', l7', i1, i2, i3, ?_⟩
      rw [start, run, i4, if_neg w0]
      rfl
/-- melded -/
theorem c128 {b : AH} {d : DS} {G : Nat → Prop} (hw : DW d) (tN : ∀ x, d.nid x ≠ 0 → tg b x = 4) {s : Nat} (hsd : d.sid (d.sa (s + 1)) = s + 1) (ts : tg b (d.sa (s + 1)) = 3) (c : CS) (hk : c.kd s = 2 ∨ c.kd s = 3) {P : PT} {T z : Nat → Nat} (hW : WF P T z) (hD : ∀ x, LZ T x → d.nid (d.ph x) = x) (hcc : ∀ x, T x ≠ 0 → c.cc x < 2 ^ 31) {f a e : Nat} (ha : LZ T a) (he : LZ T e) (hz : z a + z e ≤ f) (hR : RunOK G d P s c (mwP (fsM (c.kd s) c.ck c.cc) P f a e).1) (hlast : d.nid (d.ph (crun s c 0 (mwP (fsM (c.kd s) c.ck c.cc) P f a e).1).2) = (crun s c 0 (mwP (fsM (c.kd s) c.ck c.cc) P f a e).1).2) :
    XM L xs 128 [.ref (d.sa (s + 1)), .ref (d.ph a), .ref (d.ph e)] (cl b d c) = some (cl b d (cfin s c (mwP (fsM (c.kd s) c.ck c.cc) P f a e).1 (mwP (fsM (c.kd s) c.ck c.cc) P f a e).2), some (.ref (d.ph (if (crun s c 0 (mwP (fsM (c.kd s) c.ck c.cc) P f a e).1).2 = 0 then (mwP (fsM (c.kd s) c.ck c.cc) P f a e).2 else hd (mwP (fsM (c.kd s) c.ck c.cc) P f a e).1 0)))) := by
  obtain ⟨a', e', l7', i1, i2, i3, i4⟩ := c128_loop L xs hw tN hsd ts hk hW hD hcc (d.ph a) (d.ph e) f a e c 0 0 .null rfl rfl rfl ha he hz (by rw [hw.1.1]; exact hw.1.2.2.2.1) hR
  rw [hw.1.1, if_pos rfl] at i4
  rw [en_128, k_128_0, i4, k_128_107]
  generalize mwP (fsM (c.kd s) c.ck c.cc) P f a e = W at *
  have hqz : LZ T W.2 := by
    rw [← i3]
    by_cases q : a' = 0
    · rw [if_pos q]; exact i2
    · rw [if_neg q]; exact i1
  have hdq := hD _ hqz
  have e1 : ∀ (u v : Nat) (C : CS), (if d.ph a' = 0 then X L xs 128 112 [.ref (d.sa (s + 1)), .ref (d.ph a), .ref (d.ph e), .ref u, .ref v, .ref (d.ph a'), .ref (d.ph e'), l7'] [] (cl b d C) else X L xs 128 117 [.ref (d.sa (s + 1)), .ref (d.ph a), .ref (d.ph e), .ref u, .ref v, .ref (d.ph a'), .ref (d.ph e'), l7'] [] (cl b d C)) = X L xs 128 119 [.ref (d.sa (s + 1)), .ref (d.ph a), .ref (d.ph e), .ref u, .ref v, .ref (d.ph a'), .ref (d.ph e'), l7'] [.ref (d.ph W.2)] (cl b d C) := by
    intro u v C
    simp only [ph0 hw (hD a' i1)]
    by_cases q : a' = 0
    · rw [if_pos q] at i3
      rw [if_pos q, k_128_112, i3]
    · rw [if_neg q] at i3
      rw [if_neg q, k_128_117, i3]
  rw [e1, k_128_119]
  unfold cfin
  simp only [ph0 hw hlast]
  by_cases p0 : (crun s c 0 W.1).2 = 0
  · rw [if_pos p0, if_pos p0, if_pos p0, k_128_126]
  · have tp : tg b (d.ph (crun s c 0 W.1).2) = 4 := tN _ (by rw [hlast]; exact p0)
    rw [if_neg p0, if_neg p0, if_neg p0, k_128_129]
    simp only [Hcl, gd_t, decide_true, Bool.and_self, HQ, HZ, tp, dN hw hlast p0, cc_2_65_4, c138 L xs hw tN (crun s c 0 W.1).1 hlast p0 hdq, bV_s]
end Cml
