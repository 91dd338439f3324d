-- pull
theorem cpB_ml (B : AH) (m : MS) {y : Nat} (hy : 32 < y) (h32 : 32 ≤ nn B) (n : Nat) : ∀ j, ml (cpB B y n j) m = cpB (ml B m) y n j := by
  intro j
  induction j with
  | zero => rw [← cpB_0, ← cpB_0, mk_ml _ _ (by omega)]
  | succ j ih =>
    rw [← cpB_S, ← cpB_S, ← ih, Hml_L B m hy, ← sL_ml _ _ (by omega)]
    rfl
def mPu1 (m : MS) (s : Nat) (sp' pl' : Nat) : MS :=
  let m1 := ((m.ssp 1).sfk (m.it (m.rt s))).sfv 0
  let m2 := mLetI (m1.srt (u1 m.rt s (m.nx (m.rt s)))) (m.rt s)
  ((m2.snu (u1 m.nu s (m.nu s - 1))).ssp sp').spl (u1 m.pl s pl')
theorem mPul_1 (m : MS) (s : Nat) (sp' pl' : Nat) : mPul m s sp' pl' = mAct (mPu1 m s sp' pl') s 3 (nI (prow (m.kd s) (m.nu s - 1) pl')) := rfl
def cPu2 (c : CS) (s y' sp' : Nat) (k : Int64) : CS := (((((c.sfk k).sfv 0).she (u1 c.he s (c.he s - 1))).sst (u1 c.st s (c.st s + nI sp'))).spa (u1 c.pa s y')).sE (c.E - 1)
theorem pull_JJ {m : MS} {c : CS} {d : DS} {B B' : AH} {T z : Nat → Nat} {V R : Nat → List Nat} {FN FI : List Nat} {ow : Nat → Nat} (hj : JJ m c d B T z V R FN FI ow) {s : Nat} (hs : s < m.K) (hk : 4 ≤ m.kd s) (h0 : 1 ≤ m.nu s) (k : Int64) {sp' pl' y' : Nat}
    (F1 : JB B' d) (F0 : nn B ≤ nn B') (F2 : ∀ x, x ≤ nn B → tg B' x = tg B x ∧ ln B' x = ln B x) (F3 : ∀ t, t < m.K → 4 ≤ m.kd t → t ≠ s → (∀ i, eL B' (c.pa t) i = eL B (c.pa t) i) ∧ y' ≠ c.pa t) (F4 : ln B' y' = pl' ∧ tg B' y' = 21 ∧ 32 < y' ∧ y' ≤ nn B') (F5 : ∀ i, i < m.nu s - 1 → eL B' y' i = eL B (c.pa s) i) (hp : m.nu s - 1 ≤ pl' ∧ 4 ≤ pl' ∧ pl' ≤ 40000) :
    (1 ≤ m.rt s ∧ m.rt s ≤ 20002 ∧ 1 ≤ m.E ∧ eL B (c.pa s) (m.nu s - 1) = m.it (m.rt s)) ∧ ∃ (R' : Nat → List Nat) (FI' : List Nat) (ow' : Nat → Nat), JJ (mPu1 m s sp' pl') (cPu2 c s y' sp' k) d B' T z V R' FN FI' ow' := by
  obtain ⟨jb, js, jt, jr, jp, jd, jv, ji, jf, jw, jh, jz, jl⟩ := id hj
  obtain ⟨i1, i2, i3, i4, i5, i6, i7⟩ := id ji
  have hK := hj.K
  obtain ⟨w1, w2, w3, w4, w5, w6, w7, w8⟩ := jw.1 s hs hk
  have hR : ∃ t, R s = m.rt s :: t ∧ Chn m.nx (m.nx (m.rt s)) t ∧ m.rt s ≠ 0 := by
    cases hr : R s with
    | nil => rw [hr, List.length_nil] at w4; omega
    | cons x t =>
      rw [hr] at w1
      obtain ⟨a1, a2, a3⟩ := w1
      exact ⟨t, by rw [a1], by rw [a1]; exact a3, by rw [a1]; exact a2⟩
  obtain ⟨t, hR1, hR2, hR3⟩ := hR
  have hmem : m.rt s ∈ R s := by rw [hR1]; exact List.mem_cons_self ..
  have how := w3 _ hmem
  obtain ⟨l1, l2, l3, l4, l5, l6⟩ := item_let ji (i := m.rt s) (by rw [how]; omega) (by rw [how]; omega)
  have hnd := w2
  rw [hR1] at hnd
  have hnt := (List.nodup_cons.mp hnd).1
  have hlen : m.nu s = t.length + 1 := by rw [w4, hR1, List.length_cons]
  have eN : (mPu1 m s sp' pl').nx = u1 m.nx (m.rt s) m.fi := rfl
  have nV : ∀ a, T a ≠ 0 → m.rt s ∉ V a := fun a ha q => by
    have o := ((jv a ha).2.2.2.2.2.2.2 _ q).1
    have := jt.2.1.2 a ha
    omega
  have nR : ∀ u, u < m.K → 4 ≤ m.kd u → u ≠ s → m.rt s ∉ R u := fun u hu hku q g => by
    have := (jw.1 u hu hku).2.2.1 _ g
    omega
  have nos : ∀ s', s' < m.K → m.kd s' ≤ 3 → s' ≠ s := fun s' _ h' q => by rw [q] at h'; omega
  refine ⟨⟨l5, by omega, l1, ?_⟩, u1 R s t, m.rt s :: FI, u1 ow (m.rt s) 50000, F1, ?_, jt.cg rfl rfl rfl, ?_, jp.cg rfl rfl rfl rfl rfl, ⟨jd.1, fun j j0 => ?_⟩, ?_, ?_, jf.cg rfl rfl rfl, ⟨fun u hu hku => ?_, fun t' u ht hu hkt hku e => ?_⟩, jh.cg rfl rfl rfl rfl rfl, ?_, jl.cg rfl rfl rfl rfl rfl rfl rfl rfl⟩
  · rw [w8 (m.nu s - 1) (by omega), Nat.sub_self, hR1]
    rfl
  · have js' : JS m c d B' := by
      refine ⟨js.1, js.2.1, js.2.2.1, fun s' hs' => ?_⟩
      obtain ⟨k1, k2, k3⟩ := js.2.2.2 s' hs'
      refine ⟨k1, k2, ?_⟩
      rw [(F2 _ (jb.2.2.1.2.2.2 _ (by rw [(js.2.2.1 s').mpr hs']; exact Nat.succ_ne_zero s'))).1]
      exact k3
    exact js'.cg rfl rfl rfl rfl rfl
  · intro s' hs'
    have hs' : s' < m.K := hs'
    refine ⟨fun h' => ?_, (jr s' hs').2⟩
    have h' : m.kd s' ≤ 3 := h'
    have ne := nos s' hs' h'
    have e1 : (mPu1 m s sp' pl').rt s' = m.rt s' := u1_o _ _ ne
    have e2 : (mPu1 m s sp' pl').pl s' = m.pl s' := u1_o _ _ ne
    rw [e1, e2]
    exact (jr s' hs').1 h'
  · by_cases q : j = m.rt s
    · subst q
      rw [u1_s]
      have := jd.2 _ j0
      rw [how] at this
      exact ⟨fun g => by have := this.mp g; omega, fun g => by omega⟩
    · rw [u1_o _ _ q]
      exact jd.2 j j0
  · have e2 : (mPu1 m s sp' pl').it = u1 m.it (m.rt s) (m.it (m.rt s)) := (u1_id _ _).symm
    exact (JV.it (m := m) (m' := mPu1 m s sp' pl') (o := 50000) jv nV eN e2 rfl rfl).cg rfl rfl rfl rfl rfl rfl rfl rfl rfl
  · refine ⟨l2, l3, fun j hj' => ?_, l4, i5, fun j hj' => ?_, fun j h1 h2 => ?_⟩
    · by_cases q : j = m.rt s
      · rw [q, u1_s]
      · rw [u1_o _ _ q]
        exact i3 j ((List.mem_cons.mp hj').resolve_left q)
    · by_cases q : j = m.rt s
      · rw [q]; exact i6 _ (by rw [how]; omega)
      · rw [u1_o _ _ q] at hj'
        exact i6 j hj'
    · by_cases q : j = m.rt s
      · rw [q, u1_s] at h2; omega
      · rw [u1_o _ _ q] at h1 h2 ⊢
        exact i7 j h1 h2
  · have hu : u < m.K := hu
    have hku : 4 ≤ m.kd u := hku
    by_cases q : u = s
    · subst q
      have er : u1 R u t u = t := u1_s _ _ _
      have e1 : (mPu1 m u sp' pl').rt u = m.nx (m.rt u) := u1_s _ _ _
      have e2 : (mPu1 m u sp' pl').nu u = m.nu u - 1 := u1_s _ _ _
      have e3 : (mPu1 m u sp' pl').pl u = pl' := u1_s _ _ _
      have e4 : (u1 c.he u (c.he u - 1)) u = c.he u - 1 := u1_s _ _ _
      have e5 : (u1 c.pa u y') u = y' := u1_s _ _ _
      refine ⟨?_, ?_, ?_, ?_, ?_, ?_, ?_, ?_⟩
      · rw [er, e1, eN]; exact Chn_u hnt hR2
      · rw [er]; exact (List.nodup_cons.mp hnd).2
      · rw [er]
        intro j hj'
        rw [u1_o _ _ (fun q => hnt (by rw [← q]; exact hj'))]
        exact w3 j (by rw [hR1]; exact List.mem_cons_of_mem _ hj')
      · rw [er, e2, hlen]; omega
      · show u1 c.he u (c.he u - 1) u = _
        rw [e4, e2, w5]
      · show _ = ln B' (u1 c.pa u y' u) ∧ tg B' (u1 c.pa u y' u) = 21 ∧ 32 < u1 c.pa u y' u ∧ u1 c.pa u y' u ≤ nn B'
        rw [e5, e3]
        exact ⟨F4.1.symm, F4.2⟩
      · rw [e2, e3]; exact hp
      · rw [e2]
        intro i hi
        show eL B' (u1 c.pa u y' u) i = m.it _
        rw [e5, er, F5 i hi, w8 i (by omega), hR1, show m.nu u - 1 - i = (m.nu u - 1 - 1 - i) + 1 from by omega]
        rfl
    · have hni := nR u hu hku q
      obtain ⟨w1, w2, w3, w4, w5, w6, w7, w8⟩ := jw.1 u hu hku
      have er : u1 R s t u = R u := u1_o _ _ q
      have e1 : (mPu1 m s sp' pl').rt u = m.rt u := u1_o _ _ q
      have e2 : (mPu1 m s sp' pl').nu u = m.nu u := u1_o _ _ q
      have e3 : (mPu1 m s sp' pl').pl u = m.pl u := u1_o _ _ q
      have e4 : (u1 c.he s (c.he s - 1)) u = c.he u := u1_o _ _ q
      have e5 : (u1 c.pa s y') u = c.pa u := u1_o _ _ q
      have f2 := F2 _ w6.2.2.2
      refine ⟨?_, ?_, ?_, ?_, ?_, ?_, ?_, ?_⟩
      · rw [er, e1, eN]; exact Chn_u hni w1
      · rw [er]; exact w2
      · rw [er]
        intro j hj'
        rw [u1_o _ _ (fun q => hni (by rw [← q]; exact hj'))]
        exact w3 j hj'
      · rw [er, e2, w4]
      · show u1 c.he s (c.he s - 1) u = _
        rw [e4, e2, w5]
      · show _ = ln B' (u1 c.pa s y' u) ∧ tg B' (u1 c.pa s y' u) = 21 ∧ 32 < u1 c.pa s y' u ∧ u1 c.pa s y' u ≤ nn B'
        rw [e5, e3, f2.1, f2.2]
        exact ⟨w6.1, w6.2.1, w6.2.2.1, Nat.le_trans w6.2.2.2 F0⟩
      · rw [e2, e3]; exact w7
      · rw [e2]
        intro i hi
        show eL B' (u1 c.pa s y' u) i = m.it _
        rw [e5, er, (F3 u hu hku q).1, w8 i hi]
  · have e : u1 c.pa s y' t' = u1 c.pa s y' u := e
    have ht : t' < m.K := ht
    have hu : u < m.K := hu
    have hkt : 4 ≤ m.kd t' := hkt
    have hku : 4 ≤ m.kd u := hku
    by_cases q1 : t' = s
    · by_cases q2 : u = s
      · rw [q1, q2]
      · rw [q1, u1_s, u1_o _ _ q2] at e
        exact absurd e (F3 u hu hku q2).2
    · by_cases q2 : u = s
      · rw [q2, u1_s, u1_o _ _ q1] at e
        exact absurd e.symm (F3 t' ht hkt q1).2
      · rw [u1_o _ _ q1, u1_o _ _ q2] at e
        exact jw.2 t' u ht hu hkt hku e
  · refine ⟨fun s' hs' => ?_, jz.2⟩
    have hs' : s' < m.K := hs'
    obtain ⟨z1, z2, z3, z4⟩ := jz.1 s' hs'
    refine ⟨fun h' => ?_, z2, z3, z4⟩
    have h' : m.kd s' ≤ 3 := h'
    show u1 c.he s (c.he s - 1) s' = _
    rw [u1_o _ _ (nos s' hs' h')]
    exact z1 h'
section Pul
variable (L : Nat) (xs : Nat → Int32)
theorem q_pull {i : Nat} {B : AH} {m : MS} {c : CS} {d : DS} (hI : Inv i B m c d) (a : Int32) : Ans L xs i B m c d 14 99 [.int a] := by
  obtain ⟨e0, ja, jq, T, z, V, R, FN, FI, ow, hj⟩ := id hI
  obtain ⟨jb, js, jt, jr, jp, jd, jv, ji, jf, jw, jh, jz, jl⟩ := id hj
  obtain ⟨p1, p2, p3, p4⟩ := id jb.1
  obtain ⟨n1, n2, n3, n4, n5, n6⟩ := ja.2.2.1
  have hw := jb.2.2.2.2.2
  have hK := hj.K
  have c20 : (20000 : Int32) = nI 20000 := by decide +kernel
  rcases st_of hK.1 a with ha | ⟨s, hs, rfl⟩
  · refine Ans.of L xs (B' := B) (c' := c) (d' := d) (r := .int (-1)) ?_ e0 jb.2.1 (fun h hh => ⟨m, ?_, hI.stay⟩)
    · rw [en_14, k_14_0]
      simp only [Hcl, p1, p2, p3, p4, HF1, HF2, gd_t, decide_true, Bool.and_self, HQ, HZ, cc_0_160_1, hj.c29f L xs ha, bR_s, if_true]
      rw [k_14_10]
      simp only [Hcl, p1, p2, p3, p4, HF1, HF2, gd_t, decide_true, Bool.and_self, HQ, HZ, cc_0_47_1, hj.c30f L xs ha, bI_s]
    · obtain ⟨b1, b2, b3, b4⟩ := id hh
      rw [en_99, k_99_0]
      simp only [Hml, b1, b2, b3, b4, HF10, gd_t, decide_true, Bool.and_self, HQ, HZ, cc_9_175_10, m_63_f L xs hh m ha, bI_s, not_true, if_false, k_99_8]
  · obtain ⟨h1, h2, h3, h4, h5, h6⟩ := hj.kin hs
    have hs40 : s < 40 := by omega
    have hs31 : s < 2 ^ 31 := by omega
    have mpre : ∀ h, MB h → XM L xs 99 [.ref 8, .int (nI s)] (ml h m) = if 4 ≤ m.kd s then X L xs 99 21 [.ref 8, .int (nI s), .null] [] (ml h m) else some (ml h m, some (.int (-2))) := by
      intro h hh
      obtain ⟨b1, b2, b3, b4⟩ := id hh
      rw [en_99, k_99_0]
      simp only [Hml, b1, b2, b3, b4, HF10, gd_t, decide_true, Bool.and_self, HQ, HZ, cc_9_175_10, m_63_t L xs hh m hs hK.1, bI_s, show ¬ (1 : Int32) = 0 from by decide, not_false_eq_true, if_true]
      rw [k_99_10]
      simp only [Hml, b1, b2, b3, b4, HF10, gd_t, decide_true, Bool.and_self, HQ, HZ, cc_9_113_10, m_62 L xs hh m hs40 h5, bI_s]
      by_cases g : 4 ≤ m.kd s
      · rw [decide_eq_true g, if_pos (show ¬ bI1 true = 0 from by decide), if_pos g]
      · rw [decide_eq_false g, if_neg (show ¬ ¬ bI1 false = 0 from by decide), if_neg g, k_99_18]
    by_cases hk : 4 ≤ m.kd s
    · have t6 := (hj.tgs hs).2.2.2 hk
      have f14 : hasF (tg B (d.sa (s + 1))) 14 = true := by rw [t6]; rfl
      obtain ⟨r1, r2, r3, r4, r5, r6, r7⟩ := hj.row hs hk
      obtain ⟨w1, w2, w3, w4, w5, w6, w7, w8⟩ := jw.1 s hs hk
      have cpre : XM L xs 14 [.ref 1, .int (nI s)] (cl B d c) = if m.nu s = 0 then some (cl B d c, some (.int (-3))) else if m.N = 20000 then some (cl B d c, some (.int (-5))) else X L xs 14 39 [.ref 1, .int (nI s), .ref (d.sa (s + 1)), .null] [] (cl B d c) := by
        rw [en_14, k_14_0]
        simp only [Hcl, p1, p2, p3, p4, HF1, HF2, gd_t, decide_true, Bool.and_self, HQ, HZ, cc_0_160_1, hj.c29 L xs hs, hk, if_true, bR_s, h3, if_false]
        rw [k_14_16]
        simp only [Hcl, p1, p2, p3, p4, HF1, HF2, gd_t, decide_true, Bool.and_self, HQ, HZ, f14, Rs d h2, r5]
        by_cases g : m.nu s = 0
        · rw [if_pos g, g, nI_0, if_neg (fun q => q rfl), k_14_23]
        · rw [if_neg g, if_pos (nI_ne0 (by omega) (by omega)), k_14_26]
          simp only [Hcl, p1, p2, p3, p4, HF1, HF2, gd_t, decide_true, Bool.and_self, HQ, HZ, cc_0_51_2, c116 L xs jb.1 d c (by omega), bI_s, n1]
          by_cases g2 : m.N = 20000
          · rw [if_pos g2, decide_eq_true g2, if_neg (show ¬ bI1 true = 0 from by decide), k_14_36]
          · rw [if_neg g2, decide_eq_false g2, if_pos (show bI1 false = 0 from rfl)]
      by_cases g : m.nu s = 0
      · refine Ans.of L xs (B' := B) (c' := c) (d' := d) (r := .int (-3)) (by rw [cpre, if_pos g]) e0 jb.2.1 (fun h hh => ⟨m, ?_, hI.stay⟩)
        obtain ⟨b1, b2, b3, b4⟩ := id hh
        rw [mpre h hh, if_pos hk, k_99_21]
        simp only [Hml, b1, b2, b3, b4, HF10, gd_t, decide_true, Bool.and_self, HQ, HZ, inb_nI hs40 (by decide), nI_clamp hs31, g, nI_0, not_true, if_false, k_99_30]
      · by_cases g2 : m.N = 20000
        · refine Ans.of L xs (B' := B) (c' := c) (d' := d) (r := .int (-5)) (by rw [cpre, if_neg g, if_pos g2]) e0 jb.2.1 (fun h hh => ⟨m, ?_, hI.stay⟩)
          obtain ⟨b1, b2, b3, b4⟩ := id hh
          rw [mpre h hh, if_pos hk, k_99_21]
          simp only [Hml, b1, b2, b3, b4, HF10, gd_t, decide_true, Bool.and_self, HQ, HZ, inb_nI hs40 (by decide), nI_clamp hs31]
          rw [if_pos (nI_ne0 (by omega) (by omega)), k_99_33]
          simp only [Hml, b1, b2, b3, b4, HF10, gd_t, decide_true, Bool.and_self, HQ, HZ, g2, c20, not_true, if_false, k_99_43]
        · have hN : m.N < 20000 := by omega
          have h0 : 1 ≤ m.nu s := by omega
          have step : ∀ (B' : AH) (y' sp' pl' : Nat), ((shk (m.kd s) (m.nu s - 1) (m.pl s) → sp' = 1 + (m.nu s - 1) ∧ pl' = m.pl s / 2) ∧ (¬ shk (m.kd s) (m.nu s - 1) (m.pl s) → sp' = 1 ∧ pl' = m.pl s)) →
              ml B' m = B' → JB B' d → nn B ≤ nn B' → (∀ x, x ≤ nn B → tg B' x = tg B x ∧ ln B' x = ln B x) → (∀ t, t < m.K → 4 ≤ m.kd t → t ≠ s → (∀ i, eL B' (c.pa t) i = eL B (c.pa t) i) ∧ y' ≠ c.pa t) → (ln B' y' = pl' ∧ tg B' y' = 21 ∧ 32 < y' ∧ y' ≤ nn B') → (∀ i, i < m.nu s - 1 → eL B' y' i = eL B (c.pa s) i) → (m.nu s - 1 ≤ pl' ∧ 4 ≤ pl' ∧ pl' ≤ 40000) →
              nn B' ≤ nn B + 4 → sl B' + 2 * prow (m.kd s) (m.nu s - 1) pl' ≤ sl B + 2 * prow (m.kd s) (m.nu s) (m.pl s) + 20 →
              (∀ c0 : CS, c0.he = c.he → c0.pa = c.pa → c0.kd = c.kd → XM L xs 152 [.ref (d.sa (s + 1))] (cl B d c0) = some (cl B' d (((c0.she (u1 c.he s (c.he s - 1))).sst (u1 c0.st s (c0.st s + nI sp'))).spa (u1 c.pa s y')), none)) → Ans L xs i B m c d 14 99 [.int (nI s)] := by
            intro B' y' sp' pl' g1 eB F1 F0 F2 F3 F4 F5 hp q1 q2 tk
            obtain ⟨⟨x1, x2, x3, x4⟩, R', FI2, ow', hj2⟩ := pull_JJ hj hs hk h0 (m.it (m.rt s)) (sp' := sp') F1 F0 F2 F3 F4 F5 hp
            have hsp : sp' ≤ 100000 := by
              rcases Classical.em (shk (m.kd s) (m.nu s - 1) (m.pl s)) with q | q
              · have := g1.1 q; omega
              · have := g1.2 q; omega
            have hM : JM (mPu1 m s sp' pl') (cPu2 c s y' sp' (m.it (m.rt s))) s := by
              obtain ⟨a1, ⟨a2, a3, a4, a5, a6⟩, ⟨n1, n2, n3, n4, n5, n6⟩, t, ht⟩ := ja
              refine ⟨fun r hr => ⟨(a1 r hr).1, fun q => ?_⟩, ⟨?_, hsp⟩, ⟨rfl, rfl, ?_, ?_, ?_⟩, ⟨n1, hN, n3, n4, n5, n6⟩, t, ht⟩
              · show u1 c.st s (c.st s + nI sp') r = _
                rw [u1_o _ _ q]
                exact (a1 r hr).2
              · show u1 c.st s (c.st s + nI sp') s = (m.st s).toInt32 + nI sp'
                rw [u1_s, (a1 s hs).2]
              · show c.E - 1 = m.E - 1
                rw [a4]
              · show m.se ≤ m.N + 1
                omega
              · show c.cn ≤ m.N + 1
                omega
            have epot : potV B' (cPu2 c s y' sp' (m.it (m.rt s))) s = prow (m.kd s) (m.nu s - 1) pl' := by
              show (if c.kd s = 0 then 0 else if c.kd s = 1 then 3 * c.lg s else if c.kd s ≤ 3 then c.hy s else prow (c.kd s) (u1 c.he s (c.he s - 1) s) (ln B' (u1 c.pa s y' s))) = _
              rw [h4, if_neg (by omega), if_neg (by omega), if_neg (by omega), u1_s, u1_s, F4.1, r5]
            have hcl := (cls L xs hj2 hM hs 3 (c.st s) (ja.1 s hs).2).1
            have cE : 1 ≤ c.E := by rw [ja.2.1.2.2.1]; exact x3
            refine Ans.of L xs (B' := B') (c' := cCls (cPu2 c s y' sp' (m.it (m.rt s))) s (nI s) 3 (nI sp') (nI (potV B' (cPu2 c s y' sp' (m.it (m.rt s))) s))) (d' := d) (r := .int (nI (m.nu s - 1))) ?_ eB F1.2.1 (fun h hh => ⟨mPul m s sp' pl', m_99 L xs hh m hs hK.1 hk h5 h0 x1 x2 x3 (by omega) (by omega) hN g1, ?_⟩)
            · have hnum := c151 L xs h2 t6 c r4 (by rw [r5, ← r6]; exact w7.1) (by rw [← r6]; omega) (nI (m.nu s - 1))
              rw [if_neg (by
                rintro (q | q)
                · exact nI_pos (by omega) q
                · have := (nI_iff (by omega) (by omega)).1.mp q
                  omega), nI_clamp (by omega), x4] at hnum
              obtain ⟨q1', q2', q3', q4'⟩ := id F1.1
              rw [cpre, if_neg g, if_neg g2, k_14_39]
              simp only [Hcl, p1, p2, p3, p4, HF1, HF2, gd_t, decide_true, Bool.and_self, HQ, HZ, f14, t6, HF6, Rs d h2, r5, dS hw h2, cc_0_166_6]
              rw [show nI (m.nu s) - 1 = nI (m.nu s - 1) from pk_sub h0, hnum]
              simp only [bL_s, Hcl, p1, HF1, gd_t]
              rw [cl_fk, k_14_58]
              simp only [Hcl, p1, p2, p3, p4, HF1, HF2, gd_t, decide_true, Bool.and_self, HQ, HZ]
              rw [cl_fv, k_14_63]
              have tk2 := tk ((c.sfk (m.it (m.rt s))).sfv 0) rfl rfl rfl
              simp only [Hcl, p1, p2, p3, p4, HF1, HF2, gd_t, decide_true, Bool.and_self, HQ, HZ, dS hw h2, t6, cc_0_177_6, tk2, bV_s, q1']
              have eE : ∀ X Y Z, ((((c.sfk (m.it (m.rt s))).sfv 0).she X).sst Y |>.spa Z).E = c.E := fun _ _ _ => rfl
              rw [eE, show nI c.E - 1 = nI (c.E - 1) from pk_sub cE, cl_E, k_14_77]
              simp only [Hcl, p1, p2, p3, p4, HF1, HF2, gd_t, decide_true, Bool.and_self, HQ, HZ, q1', cc_0_72_1]
              have e1 : XM L xs 39 [.ref 1, .int (nI s), .ref (d.sa (s + 1)), .int 3, .int (c.st s)] (cl B' d ((((((c.sfk (m.it (m.rt s))).sfv 0).she (u1 c.he s (c.he s - 1))).sst (u1 ((c.sfk (m.it (m.rt s))).sfv 0).st s (((c.sfk (m.it (m.rt s))).sfv 0).st s + nI sp'))).spa (u1 c.pa s y')).sE (c.E - 1))) = _ := hcl
              have ft : hasF (tg B' (d.sa (s + 1))) 14 = true := by rw [(F2 _ (jb.2.2.1.2.2.2 _ (by rw [h2]; exact Nat.succ_ne_zero s))).1]; exact f14
              have e2 : (cCls (cPu2 c s y' sp' (m.it (m.rt s))) s (nI s) 3 (nI (mPu1 m s sp' pl').sp) (nI (potV B' (cPu2 c s y' sp' (m.it (m.rt s))) s))).he s = m.nu s - 1 := by
                show u1 c.he s (c.he s - 1) s = _
                rw [u1_s, r5]
              rw [e1]
              simp only [Hcl, p1, p2, p3, p4, HF1, HF2, gd_t, decide_true, Bool.and_self, HQ, HZ, bV_s, ft, Rs d h2, e2]
              rfl
            · have jap := act_JA hM hs 3 (nI (prow (m.kd s) (m.nu s - 1) pl'))
              have hrw := rwP_u (m := m) (m' := mPul m s sp' pl') (s := s) (x := prow (m.kd s) (m.nu s - 1) pl') rfl hs (fun t ht => by
                show (if 4 ≤ m.kd t then prow (m.kd t) (u1 m.nu s (m.nu s - 1) t) (u1 m.pl s pl' t) else 0) = _
                by_cases q : t = s
                · rw [q, if_pos hk, if_pos rfl, u1_s, u1_s]
                · rw [if_neg q, u1_o _ _ q, u1_o _ _ q])
              rw [if_pos hk] at hrw
              have := Inv.mk' (i := i + 1) (B := B') jap (JQ.up (JQ.act jq rfl q1 (by
                have e : rwP (mAct (mPu1 m s sp' pl') s 3 (nI (prow (m.kd s) (m.nu s - 1) pl'))) = rwP (mPul m s sp' pl') := rfl
                rw [e]; omega))) (hj2.act s 3 (nI (prow (m.kd s) (m.nu s - 1) pl')) (nI s) 3 (nI sp') (nI (prow (m.kd s) (m.nu s - 1) pl')))
              rw [mPul_1]
              rw [← epot] at this ⊢
              exact this
          have c152' : ∀ c0 : CS, c0.he = c.he → c0.pa = c.pa → c0.kd = c.kd → _ := fun c0 e1 e2 e3 => c152 L xs hw jb.2.2.1 h2 t6 c0 (by rw [e2]; exact r4) (by rw [e2]; exact w6.2.2.2) (by rw [e1, r5]; exact h0) (by rw [e1, e2, r5, ← r6]; exact w7.1) (by rw [e2, ← r6]; omega) (by rw [e3, h4]; exact h5)
          rcases Classical.em (shk (m.kd s) (m.nu s - 1) (m.pl s)) with q | q
          · have x1 : ∀ x, x ≤ nn B → ¬ x = nn B + 1 := fun x hx => by omega
            have hle : nn B + 1 > 32 := by have := jb.2.2.1.1; omega
            have q' := q
            unfold shk at q'
            refine step (cpB B (c.pa s) (m.pl s / 2) (m.nu s - 1)) (nn B + 1) (1 + (m.nu s - 1)) (m.pl s / 2) ⟨fun _ => ⟨rfl, rfl⟩, fun r => absurd q r⟩ (by rw [cpB_ml _ _ w6.2.2.1 jb.2.2.1.1, e0]) ?_ (Nat.le_succ _) (fun x hx => ⟨if_neg (x1 x hx), if_neg (x1 x hx)⟩) (fun t ht hkt r => ⟨fun i => if_neg (x1 _ (jw.1 t ht hkt).2.2.2.2.2.1.2.2.2), ?_⟩) ⟨if_pos rfl, if_pos rfl, hle, Nat.le_refl _⟩ (fun i hi => ?_) (by omega) (by show nn B + 1 ≤ nn B + 4; omega) ?_ (fun c0 e1 e2 e3 => ?_)
            · exact Ext.JB (B := B) ⟨Nat.le_succ _, fun x hx => ⟨if_neg (x1 x hx), if_neg (x1 x hx), fun i => if_neg (x1 x hx), fun f => if_neg (x1 x hx)⟩⟩ jb
            · have hx := (jw.1 t ht hkt).2.2.2.2.2.1.2.2.2
              omega
            · show (if nn B + 1 = nn B + 1 then (if i < m.nu s - 1 then eL B (c.pa s) i else 0) else _) = _
              rw [if_pos rfl, if_pos hi]
            · show sl B + m.pl s / 2 + 2 * prow (m.kd s) (m.nu s - 1) (m.pl s / 2) ≤ sl B + 2 * prow (m.kd s) (m.nu s) (m.pl s) + 20
              unfold prow
              rw [q'.1]
              (repeat' split) <;> omega
            · have := (c152' c0 e1 e2 e3).2 (by rw [e1, e2, e3, h4, r5, ← r6]; exact q)
              rw [this, e1, e2, r5, ← r6]
              have e4 : cCp (cRls c0 s) s (nn B + 1) = ((c0.she (u1 c.he s (c.he s - 1))).sst (u1 c0.st s (c0.st s + nI (1 + (m.nu s - 1))))).spa (u1 c.pa s (nn B + 1)) := by
                show ((c0.she (u1 c0.he s (c0.he s - 1))).sst (u1 (u1 c0.st s (c0.st s + 1)) s (u1 c0.st s (c0.st s + 1) s + nI (u1 c0.he s (c0.he s - 1) s)))).spa (u1 c0.pa s (nn B + 1)) = _
                rw [u1_u1, u1_s, u1_s, e1, e2, r5, Int32.add_assoc, nI_1c, nI_add]
              rw [e4, r5]
          · have x3 : ∀ t, t < m.K → 4 ≤ m.kd t → t ≠ s → ¬ c.pa t = c.pa s := fun t ht hkt q e => q (jw.2 t s ht hs hkt hk e)
            refine step B (c.pa s) 1 (m.pl s) ⟨fun r => absurd r q, fun _ => ⟨rfl, rfl⟩⟩ e0 jb (Nat.le_refl _) (fun x hx => ⟨rfl, rfl⟩) (fun t ht hkt r => ⟨fun i => rfl, fun e => x3 t ht hkt r e.symm⟩) ⟨r6.symm, r4, w6.2.2.1, w6.2.2.2⟩ (fun i hi => rfl) (by omega) (by omega) ?_ (fun c0 e1 e2 e3 => ?_)
            · unfold prow
              have : m.kd s = 4 ∨ m.kd s = 5 := by omega
              rcases this with r | r <;> rw [r] <;> (repeat' split) <;> omega
            · have := (c152' c0 e1 e2 e3).1 (by rw [e1, e2, e3, h4, r5, ← r6]; exact q)
              rw [this]
              have e4 : cRls c0 s = ((c0.she (u1 c.he s (c.he s - 1))).sst (u1 c0.st s (c0.st s + nI 1))).spa (u1 c.pa s (c.pa s)) := by
                rw [u1_id, ← e1, ← e2]
                rfl
              rw [e4]
    · refine Ans.of L xs (B' := B) (c' := c) (d' := d) (r := .int (-2)) ?_ e0 jb.2.1 (fun h hh => ⟨m, by rw [mpre h hh, if_neg hk], hI.stay⟩)
      rw [en_14, k_14_0]
      simp only [Hcl, p1, p2, p3, p4, HF1, HF2, gd_t, decide_true, Bool.and_self, HQ, HZ, cc_0_160_1, hj.c29 L xs hs, hk, if_false, bR_s, if_true]
      rw [k_14_10]
      simp only [Hcl, p1, p2, p3, p4, HF1, HF2, gd_t, decide_true, Bool.and_self, HQ, HZ, cc_0_47_1, hj.c30 L xs hs, bI_s]
end Pul
