-- base heaps that have grown
def Ext (B B' : AH) : Prop := nn B ≤ nn B' ∧ ∀ x, x ≤ nn B → tg B' x = tg B x ∧ ln B' x = ln B x ∧ (∀ i, eL B' x i = eL B x i) ∧ ∀ f, fR B' f x = fR B f x
theorem Ext.rfl' (B : AH) : Ext B B := ⟨Nat.le_refl _, fun _ _ => ⟨rfl, rfl, fun _ => rfl, fun _ => rfl⟩⟩
theorem Ext.tr {B B' B'' : AH} (h : Ext B B') (g : Ext B' B'') : Ext B B'' := by
  refine ⟨Nat.le_trans h.1 g.1, fun x hx => ?_⟩
  obtain ⟨a1, a2, a3, a4⟩ := h.2 x hx
  obtain ⟨b1, b2, b3, b4⟩ := g.2 x (Nat.le_trans hx h.1)
  exact ⟨b1.trans a1, b2.trans a2, fun i => (b3 i).trans (a3 i), fun f => (b4 f).trans (a4 f)⟩
theorem Ext.MB {B B' : AH} (h : Ext B B') (h32 : 32 ≤ nn B) (hb : MB B) : MB B' := by
  have t : ∀ x, x ≤ 32 → tg B' x = tg B x := fun x hx => (h.2 x (by omega)).1
  have l : ∀ x, x ≤ 32 → ln B' x = ln B x := fun x hx => (h.2 x (by omega)).2.1
  have f8 : ∀ f, fR B' f 8 = fR B f 8 := (h.2 8 (by omega)).2.2.2
  unfold _root_.Jvm.Pilot.CStepPurseLaw_law_r8377_2c7bf5.MB at hb ⊢
  simp only [f8, t 8 (by decide), t 9 (by decide), t 10 (by decide), t 11 (by decide), t 12 (by decide), t 13 (by decide), t 14 (by decide), t 15 (by decide), t 16 (by decide), t 17 (by decide), t 18 (by decide), t 19 (by decide), t 20 (by decide), t 21 (by decide), t 22 (by decide), t 23 (by decide), t 24 (by decide), t 25 (by decide), t 26 (by decide), t 27 (by decide), t 28 (by decide), t 29 (by decide), t 30 (by decide), t 31 (by decide), t 32 (by decide), l 9 (by decide), l 10 (by decide), l 11 (by decide), l 12 (by decide), l 13 (by decide), l 14 (by decide), l 15 (by decide), l 16 (by decide), l 17 (by decide), l 18 (by decide), l 19 (by decide), l 20 (by decide), l 21 (by decide), l 22 (by decide), l 23 (by decide), l 24 (by decide), l 25 (by decide), l 26 (by decide), l 27 (by decide), l 28 (by decide), l 29 (by decide), l 30 (by decide), l 31 (by decide), l 32 (by decide)]
  exact hb
theorem Ext.CB {B B' : AH} (h : Ext B B') (h32 : 32 ≤ nn B) (hb : CB B) : CB B' := by
  have t : ∀ x, x ≤ 32 → tg B' x = tg B x := fun x hx => (h.2 x (by omega)).1
  have l : ∀ x, x ≤ 32 → ln B' x = ln B x := fun x hx => (h.2 x (by omega)).2.1
  have f1 : ∀ f, fR B' f 1 = fR B f 1 := (h.2 1 (by omega)).2.2.2
  have f3 : ∀ f, fR B' f 3 = fR B f 3 := (h.2 3 (by omega)).2.2.2
  unfold _root_.Jvm.Pilot.CStepPurseLaw_law_r8377_2c7bf5.CB at hb ⊢
  simp only [f1, f3, t 1 (by decide), t 2 (by decide), t 3 (by decide), t 4 (by decide), t 5 (by decide), t 6 (by decide), t 7 (by decide), l 2 (by decide), l 4 (by decide), l 5 (by decide), l 6 (by decide), l 7 (by decide)]
  exact hb
theorem Ext.JB {B B' : AH} {d : DS} (h : Ext B B') (hb : JB B d) : JB B' d := by
  obtain ⟨b1, b2, b3, b4, b5, b6⟩ := hb
  refine ⟨h.CB b3.1 b1, h.MB b3.1 b2, ⟨Nat.le_trans b3.1 h.1, fun x hx => Nat.le_trans (b3.2.1 x hx) h.1, fun x hx => Nat.le_trans (b3.2.2.1 x hx) h.1, fun x hx => Nat.le_trans (b3.2.2.2 x hx) h.1⟩, fun x hx => ?_, fun x hx => ?_, b6⟩
  · rw [(h.2 x (b3.2.1 x hx)).1]; exact b4 x hx
  · rw [(h.2 x (b3.2.2.1 x hx)).1]; exact b5 x hx
theorem JJ.ext {m : MS} {c : CS} {d : DS} {B B' : AH} {T z : Nat → Nat} {V R : Nat → List Nat} {FN FI : List Nat} {ow : Nat → Nat} (h : JJ m c d B T z V R FN FI ow) (e : Ext B B') : JJ m c d B' T z V R FN FI ow := by
  obtain ⟨jb, js, jt, jr, jp, jd, jv, ji, jf, jw, jh, jz, jl⟩ := h
  refine ⟨e.JB jb, ⟨js.1, js.2.1, js.2.2.1, fun s hs => ?_⟩, jt, jr, jp, jd, jv, ji, jf, ⟨fun s hs hk => ?_, jw.2⟩, jh, jz, jl⟩
  · obtain ⟨k1, k2, k3⟩ := js.2.2.2 s hs
    refine ⟨k1, k2, ?_⟩
    rw [(e.2 _ (jb.2.2.1.2.2.2 _ (by rw [(js.2.2.1 s).mpr hs]; exact Nat.succ_ne_zero s))).1]
    exact k3
  · obtain ⟨w1, w2, w3, w4, w5, w6, w7, w8⟩ := jw.1 s hs hk
    obtain ⟨e1, e2, e3, -⟩ := e.2 _ w6.2.2.2
    exact ⟨w1, w2, w3, w4, w5, ⟨by rw [e2]; exact w6.1, by rw [e1]; exact w6.2.1, w6.2.2.1, Nat.le_trans w6.2.2.2 e.1⟩, w7, fun i hi => by rw [e3]; exact w8 i hi⟩
theorem JQ.le {B B' : AH} {m : MS} {i : Nat} (h : JQ B m i) (h1 : nn B' ≤ nn B + 10) (h2 : sl B' ≤ sl B + 200) : JQ B' m (i + 1) := by
  obtain ⟨a, b⟩ := h
  exact ⟨by omega, by omega⟩
/-- nothing has changed but rows of scratch -/
theorem Inv.sW {i : Nat} {B : AH} {m : MS} {c : CS} {d : DS} (h : Inv i B m c d) (q : SCT) : Inv (i + 1) (ml B (m.sW q)) (m.sW q) c d := by
  obtain ⟨e, ja, jq, T, z, V, R, FN, FI, ow, hj⟩ := h
  exact Inv.mk' (m := m.sW q) ja (JQ.le jq (by omega) (by omega)) (T := T) (z := z) (V := V) (R := R) (FN := FN) (FI := FI) (ow := ow) hj
theorem Inv.stay {i : Nat} {B : AH} {m : MS} {c : CS} {d : DS} (h : Inv i B m c d) : Inv (i + 1) (ml B m) m c d := by
  obtain ⟨e, ja, jq, T, z, V, R, FN, FI, ow, hj⟩ := h
  exact Inv.mk' ja (JQ.le jq (by omega) (by omega)) hj
theorem Inv.sWx {i : Nat} {B B' : AH} {m : MS} {c : CS} {d : DS} (h : Inv i B m c d) (x : Ext B B') (h1 : nn B' ≤ nn B + 10) (h2 : sl B' ≤ sl B + 200) (q : SCT) : Inv (i + 1) (ml B' (m.sW q)) (m.sW q) c d := by
  obtain ⟨e, ja, jq, T, z, V, R, FN, FI, ow, hj⟩ := h
  exact Inv.mk' (m := m.sW q) ja (JQ.le jq h1 h2) (T := T) (z := z) (V := V) (R := R) (FN := FN) (FI := FI) (ow := ow) (hj.ext x)
-- a switch
theorem sw_c (w : Int32) {n : Nat} (hn : n < 2 ^ 30) : (∃ k, k ≤ n ∧ w = nI k) ∨ (w.toInt < 0 ∨ (n : Int) < w.toInt) := by
  by_cases w0 : w < 0
  · right; left
    have := Int32.lt_iff_toInt_lt.mp w0
    rwa [Int32.toInt_zero] at this
  · obtain ⟨j, j1, rfl⟩ := nn_of w0
    by_cases q : j ≤ n
    · exact Or.inl ⟨j, q, rfl⟩
    · right; right
      rw [nI_toInt j1]; omega
theorem swp_d {pc : Nat} {e lo hi : Int} {os : Array Int} {w : Int32} (h : w.toInt < lo ∨ hi < w.toInt) : swp pc e lo hi os w = tgt pc e := if_pos h
section Qry
variable (L : Nat) (xs : Nat → Int32)
theorem q_fk {i : Nat} {B : AH} {m : MS} {c : CS} {d : DS} (hI : Inv i B m c d) : Ans L xs i B m c d 16 104 [] := by
  obtain ⟨e, ja, jq, T, z, V, R, FN, FI, ow, hj⟩ := id hI
  obtain ⟨p1, p2, p3, p4⟩ := id hj.1.1
  refine Ans.of L xs (B' := B) (c' := c) (d' := d) (r := .long m.fk) ?_ e hj.1.2.1 (fun h hh => ⟨m, m_104 L xs hh m, hI.stay⟩)
  rw [en_16, k_16_0]
  simp only [Hcl, p1, p2, p3, p4, HF1, HF2, gd_t, decide_true, Bool.and_self, HQ, HZ, ja.2.1.1]
theorem q_fv {i : Nat} {B : AH} {m : MS} {c : CS} {d : DS} (hI : Inv i B m c d) : Ans L xs i B m c d 17 105 [] := by
  obtain ⟨e, ja, jq, T, z, V, R, FN, FI, ow, hj⟩ := id hI
  obtain ⟨p1, p2, p3, p4⟩ := id hj.1.1
  refine Ans.of L xs (B' := B) (c' := c) (d' := d) (r := .int m.fv) ?_ e hj.1.2.1 (fun h hh => ⟨m, m_105 L xs hh m, hI.stay⟩)
  rw [en_17, k_17_0]
  simp only [Hcl, p1, p2, p3, p4, HF1, HF2, gd_t, decide_true, Bool.and_self, HQ, HZ, ja.2.1.2.1]
theorem q_ledger {i : Nat} {B : AH} {m : MS} {c : CS} {d : DS} (hI : Inv i B m c d) (a w : Int32) : Ans L xs i B m c d 22 112 [.int a, .int w] := by
  obtain ⟨e, ja, jq, T, z, V, R, FN, FI, ow, hj⟩ := id hI
  obtain ⟨p1, p2, p3, p4⟩ := id hj.1.1
  obtain ⟨n1, n2, n3, n4, n5, n6⟩ := ja.2.2.1
  refine Ans.of L xs (B' := B) (c' := c) (d' := d) (r := .int (ldg m.N m.rO m.rP m.rT m.rQ a w)) ?_ e hj.1.2.1 (fun h hh => ⟨m, m_112 L xs hh m n2 a w, hI.stay⟩)
  rw [en_22, k_22_0]
  simp only [Hcl, p1, p2, p3, p4, HF1, HF2, gd_t, decide_true, Bool.and_self, HQ, HZ, cc_0_239_2, c118 L xs hj.1.1 d c (by rw [n1]; exact n2) a w, bI_s, n1, n3, n4, n5, n6]
theorem q_spread {i : Nat} {B : AH} {m : MS} {c : CS} {d : DS} (hI : Inv i B m c d) (a : Int32) : Ans L xs i B m c d 23 113 [.int a] := by
  obtain ⟨e, ja, jq, T, z, V, R, FN, FI, ow, hj⟩ := id hI
  obtain ⟨p1, p2, p3, p4⟩ := id hj.1.1
  obtain ⟨n1, n2, n3, n4, n5, n6⟩ := ja.2.2.1
  obtain ⟨t, ht⟩ := ja.2.2.2
  refine Ans.of L xs (B' := B) (c' := c) (d' := d) (r := .int (spr t m.N a)) ?_ e hj.1.2.1 (fun h hh => ⟨m, m_113 L xs hh m n2 ht a, hI.stay⟩)
  rw [en_23, k_23_0]
  simp only [Hcl, p1, p2, p3, p4, HF1, HF2, gd_t, decide_true, Bool.and_self, HQ, HZ, cc_0_242_2, c119 L xs hj.1.1 d c (by rw [n1]; exact n2) (t := t) (by rw [n1, n5]; exact ht) a, bI_s, n1]
theorem q_count {i : Nat} {B : AH} {m : MS} {c : CS} {d : DS} (hI : Inv i B m c d) (w : Int32) : Ans L xs i B m c d 24 114 [.int w] := by
  obtain ⟨e, ja, jq, T, z, V, R, FN, FI, ow, hj⟩ := id hI
  obtain ⟨p1, p2, p3, p4⟩ := id hj.1.1
  obtain ⟨n1, n2, n3, n4, n5, n6⟩ := ja.2.2.1
  refine Ans.of L xs (B' := B) (c' := c) (d' := d) (r := .int (cnt m.K m.E m.N w)) ?_ e hj.1.2.1 (fun h hh => ⟨m, m_114 L xs hh m w, hI.stay⟩)
  rw [en_24, k_24_0]
  rcases sw_c w (show 2 < 2 ^ 30 by decide) with ⟨k, hk, rfl⟩ | g
  · have : k = 0 ∨ k = 1 ∨ k = 2 := by omega
    rcases this with rfl | rfl | rfl
    · rw [show swp 1 45 0 2 #[27, 32, 37] (nI 0) = 28 from by decide +kernel, k_24_28]
      simp only [Hcl, p1, p2, p3, p4, HF1, HF2, gd_t, decide_true, Bool.and_self, HQ, HZ, ← hj.2.1.1]
      rfl
    · rw [show swp 1 45 0 2 #[27, 32, 37] (nI 1) = 33 from by decide +kernel, k_24_33]
      simp only [Hcl, p1, p2, p3, p4, HF1, HF2, gd_t, decide_true, Bool.and_self, HQ, HZ, ja.2.1.2.2.1]
      rfl
    · rw [show swp 1 45 0 2 #[27, 32, 37] (nI 2) = 38 from by decide +kernel, k_24_38]
      simp only [Hcl, p1, p2, p3, p4, HF1, HF2, gd_t, decide_true, Bool.and_self, HQ, HZ, n1]
      rfl
  · have g : w.toInt < 0 ∨ (2 : Int) < w.toInt := g
    rw [swp_d g, show tgt 1 45 = 46 from rfl, k_24_46]
    unfold cnt
    rw [if_neg, if_neg, if_neg]
    · rintro rfl
      rw [show (2 : Int32).toInt = 2 from rfl] at g
      omega
    · rintro rfl
      rw [show (1 : Int32).toInt = 1 from rfl] at g
      omega
    · rintro rfl
      rw [show (0 : Int32).toInt = 0 from rfl] at g
      omega
theorem m_100_f {h : AH} (hb : MB h) (m : MS) {a : Int32} (ha : a < 0 ∨ nI m.K ≤ a) (i : Int32) : XM L xs 100 [.ref 8, .int a, .int i] (ml h m) = some (ml h m, some (.long 0)) := by
  obtain ⟨b1, b2, b3, b4⟩ := id hb
  rw [en_100, k_100_0]
  simp only [Hml, b1, b2, b3, b4, HF10, gd_t, decide_true, Bool.and_self, HQ, HZ, cc_9_175_10, m_63_f L xs hb m ha, bI_s, if_true, k_100_30]
theorem m_100_k {h : AH} (hb : MB h) (m : MS) {s : Nat} (hsK : s < m.K) (hK : m.K ≤ 40) (hk : m.kd s ≤ 3) (i : Int32) : XM L xs 100 [.ref 8, .int (nI s), .int i] (ml h m) = some (ml h m, some (.long 0)) := by
  obtain ⟨b1, b2, b3, b4⟩ := id hb
  have hs : s < 40 := by omega
  rw [en_100, k_100_0]
  simp only [Hml, b1, b2, b3, b4, HF10, gd_t, decide_true, Bool.and_self, HQ, HZ, cc_9_175_10, m_63_t L xs hb m hsK hK, bI_s, show ¬ (1 : Int32) = 0 from by decide, if_false]
  rw [k_100_8]
  simp only [Hml, b1, b2, b3, b4, HF10, gd_t, decide_true, Bool.and_self, HQ, HZ, cc_9_113_10, m_62 L xs hb m hs (by omega), bI_s, show ¬ 4 ≤ m.kd s by omega, decide_false, bI1, if_true, if_false, Bool.false_eq_true, k_100_30]
theorem q_at {i : Nat} {B : AH} {m : MS} {c : CS} {d : DS} (hI : Inv i B m c d) (a j : Int32) : Ans L xs i B m c d 15 100 [.int a, .int j] := by
  obtain ⟨e, ja, jq, T, z, V, R, FN, FI, ow, hj⟩ := id hI
  obtain ⟨p1, p2, p3, p4⟩ := id hj.1.1
  obtain ⟨jb, js, jt, jr, jp, jd, jv, ji, jf, jw, jh, jz, jl⟩ := id hj
  have hK : m.K ≤ 40 := by rw [js.1]; exact js.2.1.1
  have hw := jb.2.2.2.2.2
  rcases st_of hK a with ha | ⟨s, hs, rfl⟩
  · refine Ans.of L xs (B' := B) (c' := c) (d' := d) (r := .long 0) ?_ e hj.1.2.1 (fun h hh => ⟨m, m_100_f L xs hh m ha j, hI.stay⟩)
    rw [js.1] at ha
    rw [en_15, k_15_0]
    simp only [Hcl, p1, p2, p3, p4, HF1, HF2, gd_t, decide_true, Bool.and_self, HQ, HZ, cc_0_160_1, c29_f L xs jb.1 hw c js.2.1 ha, bR_s, if_true, k_15_10, k_15_19]
  · have hsd := hj.hs hs
    have hsc : s < c.K := by rw [← js.1]; exact hs
    obtain ⟨k1, k2, k3⟩ := js.2.2.2 s hs
    by_cases hk : m.kd s ≤ 3
    · refine Ans.of L xs (B' := B) (c' := c) (d' := d) (r := .long 0) ?_ e hj.1.2.1 (fun h hh => ⟨m, m_100_k L xs hh m hs hK hk j, hI.stay⟩)
      rw [en_15, k_15_0]
      have c29 : XM L xs 29 [.ref 1, .int (nI s)] (cl B d c) = some (cl B d c, some (.ref 0)) := by
        rcases tgS_all k2 with ⟨q, g⟩ | ⟨q, g⟩ | ⟨q, g⟩ | ⟨q, g⟩
        · exact c29_5 L xs jb.1 hw c js.2.1 hsc hsd (k3.trans g)
        · exact c29_7 L xs jb.1 hw c js.2.1 hsc hsd (k3.trans g)
        · exact c29_3 L xs jb.1 hw c js.2.1 hsc hsd (k3.trans g)
        · omega
      simp only [Hcl, p1, p2, p3, p4, HF1, HF2, gd_t, decide_true, Bool.and_self, HQ, HZ, cc_0_160_1, c29, bR_s, if_true, k_15_10, k_15_19]
    · obtain ⟨w1, w2, w3, w4, w5, w6, w7, w8⟩ := jw.1 s hs (by omega)
      have hR : ∀ x, x ∈ R s → x ≤ 20002 := fun x hx => by
        have := (ji.2.2.2.2.2.1 x (by rw [w3 x hx]; omega)).2
        have := ji.2.2.2.2.1
        omega
      have t6 : tg B (d.sa (s + 1)) = 6 := by
        rw [k3]
        rcases tgS_all k2 with ⟨q, g⟩ | ⟨q, g⟩ | ⟨q, g⟩ | ⟨q, g⟩
        · omega
        · omega
        · omega
        · exact g
      have s0 : ¬ d.sa (s + 1) = 0 := fun g => Nat.succ_ne_zero s ((sa0 hw hsd).mp g)
      refine Ans.of L xs (B' := B) (c' := c) (d' := d) (r := .long (if j < 0 ∨ nI (m.nu s) ≤ j then 0 else m.it ((R s).getD (m.nu s - 1 - j.toNatClampNeg) 0))) ?_ e hj.1.2.1 (fun h hh => ⟨m, m_100 L xs hh m hs hK (by omega) k2 w1 w4 hR (by omega) j, hI.stay⟩)
      have hc := c151 L xs hsd t6 c w6.2.1 (by rw [w5, ← w6.1]; exact w7.1) (by rw [← w6.1]; omega) j
      rw [en_15, k_15_0]
      simp only [Hcl, p1, p2, p3, p4, HF1, HF2, gd_t, decide_true, Bool.and_self, HQ, HZ, cc_0_160_1, c29_6 L xs jb.1 hw c js.2.1 hsc hsd t6, bR_s, s0, if_false]
      rw [k_15_14]
      simp only [Hcl, p1, p2, p3, p4, HF1, HF2, gd_t, decide_true, Bool.and_self, HQ, HZ, dS hw hsd, t6, cc_0_166_6, hc, bL_s, k_15_19, w5]
      by_cases g : j < 0 ∨ nI (m.nu s) ≤ j
      · rw [if_pos g, if_pos g]
      · rw [if_neg g, if_neg g]
        obtain ⟨k, kk, rfl⟩ := nn_of (fun q => g (Or.inl q))
        have hlt : k < m.nu s := by
          rcases Nat.lt_or_ge k (m.nu s) with q | q
          · exact q
          · exact absurd (Or.inr ((nI_iff (by omega) kk).1.mpr q)) g
        rw [nI_clamp kk, w8 k hlt]
end Qry
