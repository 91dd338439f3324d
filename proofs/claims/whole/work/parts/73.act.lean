-- inside an act on structure s, and its closing
def JM (m : MS) (c : CS) (s : Nat) : Prop := (∀ r, r < m.K → c.pu r = (m.pu r).toInt32 ∧ (r ≠ s → c.st r = (m.st r).toInt32)) ∧ (c.st s = (m.st s).toInt32 + nI m.sp ∧ m.sp ≤ 100000) ∧ (c.fk = m.fk ∧ c.fv = m.fv ∧ c.E = m.E ∧ m.se ≤ m.N + 1 ∧ c.cn ≤ m.N + 1) ∧ (c.N = m.N ∧ m.N < 20000 ∧ c.rO = m.rO ∧ c.rP = m.rP ∧ c.rT = m.rT ∧ c.rQ = m.rQ) ∧ ∃ t : Nat → Nat, ∀ i, i < m.N → m.rT i = nI (t i) ∧ t i ≤ 100000
theorem i64_32 (x : Int64) (y : Int32) : (x + y.toInt64).toInt32 = x.toInt32 + y := by
  rw [Int64.toInt32_add, Int32.toInt32_toInt64]
theorem act_JA {m : MS} {c : CS} {s : Nat} (h : JM m c s) (hs : s < m.K) (price pot : Int32) : JA (mAct m s price pot) (cCls c s (nI s) price (nI m.sp) pot) := by
  obtain ⟨a1, ⟨a2, a3⟩, a4, ⟨n1, n2, n3, n4, n5, n6⟩, t, ht⟩ := h
  refine ⟨fun r hr => ⟨?_, ?_⟩, ⟨a4.1, a4.2.1, a4.2.2.1, a4.2.2.2.1, a4.2.2.2.2⟩, ⟨?_, n2, ?_, ?_, ?_, ?_⟩, u1 t m.N m.sp, fun i hi => ?_⟩
  · show u1 c.pu s (c.pu s + (price - nI m.sp)) r = (u1 m.pu s (m.pu s + (price - nI m.sp).toInt64) r).toInt32
    by_cases q : r = s
    · subst q
      rw [u1_s, u1_s, i64_32, (a1 r hr).1]
    · rw [u1_o _ _ q, u1_o _ _ q]
      exact (a1 r hr).1
  · show c.st r = (u1 m.st s (m.st s + (nI m.sp).toInt64) r).toInt32
    by_cases q : r = s
    · subst q
      rw [u1_s, i64_32, a2]
    · rw [u1_o _ _ q]
      exact (a1 r hr).2 q
  · show c.N + 1 = m.N + 1
    rw [n1]
  · show u1 c.rO c.N (nI s) = u1 m.rO m.N (nI s)
    rw [n1, n3]
  · show u1 c.rP c.N price = u1 m.rP m.N price
    rw [n1, n4]
  · show u1 c.rT c.N (nI m.sp) = u1 m.rT m.N (nI m.sp)
    rw [n1, n5]
  · show u1 c.rQ c.N pot = u1 m.rQ m.N pot
    rw [n1, n6]
  · show u1 m.rT m.N (nI m.sp) i = nI (u1 t m.N m.sp i) ∧ u1 t m.N m.sp i ≤ 100000
    by_cases q : i = m.N
    · subst q
      rw [u1_s, u1_s]
      exact ⟨rfl, a3⟩
    · rw [u1_o _ _ q, u1_o _ _ q]
      have hi : i < m.N + 1 := hi
      exact ht i (by omega)
theorem JJ.act {m : MS} {c : CS} {d : DS} {B : AH} {T z : Nat → Nat} {V R : Nat → List Nat} {FN FI : List Nat} {ow : Nat → Nat} (h : JJ m c d B T z V R FN FI ow) (s : Nat) (p q i p' t' q' : Int32) : JJ (mAct m s p q) (cCls c s i p' t' q') d B T z V R FN FI ow := h
/-- an act begins -/
theorem JA.beg {m : MS} {c : CS} (h : JA m c) (hN : m.N < 20000) (s : Nat) (hs : s < m.K) : JM (m.ssp 0) c s := by
  obtain ⟨a1, ⟨a2, a3, a4, a5, a6⟩, ⟨n1, n2, n3, n4, n5, n6⟩, t, ht⟩ := h
  refine ⟨fun r hr => ⟨(a1 r hr).1, fun _ => (a1 r hr).2⟩, ⟨?_, by show 0 ≤ 100000; omega⟩, ⟨a2, a3, a4, by show m.se ≤ m.N + 1; omega, by show c.cn ≤ m.N + 1; omega⟩, ⟨n1, hN, n3, n4, n5, n6⟩, t, ht⟩
  show c.st s = (m.st s).toInt32 + nI 0
  rw [nI_0, Int32.add_zero, (a1 s hs).2]
theorem JQ.act {B B' : AH} {m m' : MS} {i : Nat} (h : JQ B m i) (h0 : m'.N = m.N + 1) (h1 : nn B' ≤ nn B + 4) (h2 : sl B' + 2 * rwP m' ≤ sl B + 2 * rwP m + 20) : JQ B' m' i := by
  obtain ⟨a, b⟩ := h
  exact ⟨by rw [h0]; omega, by rw [h0]; omega⟩
theorem JQ.up {B : AH} {m : MS} {i : Nat} (h : JQ B m i) : JQ B m (i + 1) := ⟨by have := h.1; omega, by have := h.2; omega⟩
section Act
variable (L : Nat) (xs : Nat → Int32)
/-- the closing on both sides -/
theorem cls {m : MS} {c : CS} {d : DS} {B : AH} {T z : Nat → Nat} {V R : Nat → List Nat} {FN FI : List Nat} {ow : Nat → Nat} (hj : JJ m c d B T z V R FN FI ow) {s : Nat} (hM : JM m c s) (hs : s < m.K) (price before : Int32) (hb : before = (m.st s).toInt32) :
    XM L xs 39 [.ref 1, .int (nI s), .ref (d.sa (s + 1)), .int price, .int before] (cl B d c) = some (cl B d (cCls c s (nI s) price (nI m.sp) (nI (potV B c s))), none) ∧ ∀ h, MB h → ∃ q, XM L xs 66 [.ref 8, .int (nI s), .int price] (ml h m) = some (ml h ((mAct m s price (nI (potV B c s))).sW q), none) := by
  obtain ⟨jb, js, jt, jr, jp, jd, jv, ji, jf, jw, jh, jz, jl⟩ := id hj
  obtain ⟨h1, h2, h3, h4, h5, h6⟩ := hj.kin hs
  have hK := hj.K
  have est : c.st s - before = nI m.sp := by
    rw [hM.2.1.1, hb, Int32.add_comm, Int32.add_sub_cancel]
  constructor
  · have := c39 L xs jb.1 jb.2.2.2.2.2 c h2 (by rw [h6]; exact (tgS_f h5).2.2.2.1) (by rw [h6]; exact (tgS_f h5).2.2.2.2) (by rw [hM.2.2.2.1.1]; exact hM.2.2.2.1.2.1) (nI s) price before (nI (potV B c s)) (by
      have := cpot L xs h2 (c.spu (u1 c.pu s (c.pu s + (price - (c.st s - before))))) (by show c.kd s ≤ 5; rw [h4]; exact h5) (by show tg B (d.sa (s + 1)) = tgS (c.kd s); rw [h4]; exact h6) (fun g => by
        have g : 4 ≤ c.kd s := g
        obtain ⟨r1, r2, r3, r4, r5, r6, r7⟩ := hj.row hs (by rw [← h4]; exact g)
        exact ⟨r4, by show c.he s < 2 ^ 29; omega, by show ln B (c.pa s) < 2 ^ 29; omega⟩)
      exact this)
    rw [est] at this
    exact this
  · intro h hh
    by_cases g : 4 ≤ m.kd s
    · obtain ⟨r1, r2, r3, r4, r5, r6, r7⟩ := hj.row hs g
      have e : potV B c s = prow (m.kd s) (m.nu s) (m.pl s) := by
        unfold potV
        rw [h4, if_neg (by omega), if_neg (by omega), if_neg (by omega), r5, r6]
      refine ⟨(m.O, m.Pi, m.Z, m.F, m.la), ?_⟩
      rw [e]
      exact m_66_r L xs hh m (by omega) g h5 (by omega) (by omega) hM.2.2.2.1.2.1 price
    · obtain ⟨q, hq⟩ := m_66_n L xs hh m hj.mw jt.2.1 (show s < 40 by omega) (by omega) (by rw [((jr s hs).1 (by omega)).1]; exact hj.rz hs) hM.2.2.2.1.2.1 price
      rw [hj.pot hs (by omega)] at hq
      exact ⟨q, hq⟩
end Act
