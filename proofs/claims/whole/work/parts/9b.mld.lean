-- two heaps melded: the invariant
theorem WF.lab {P : PT} {T z : Nat → Nat} (h : WF P T z) {f : Nat → Nat} (f0 : f 0 = 0) : WF P (fun a => f (T a)) z := by
  refine ⟨by show f (T 0) = 0; rw [h.1, f0], h.2.1, fun n hn => ?_⟩
  have tn : T n ≠ 0 := fun q => hn (by show f (T n) = 0; rw [q, f0])
  obtain ⟨w1, w2, w3, w4, w5⟩ := h.2.2 n tn
  exact ⟨fun g => ⟨(w1 g).1, congrArg f (w1 g).2⟩, fun g => ⟨(w2 g).1, congrArg f (w2 g).2⟩, fun g => ⟨(w3 g).1, congrArg f (w3 g).2⟩, w4, w5⟩
/-- what is of t comes to s -/
def rl (s t x : Nat) : Nat := if x = t + 1 then s + 1 else x
theorem rl_0 (s t : Nat) : rl s t 0 = 0 := if_neg (by omega)
theorem rl_t (s t : Nat) : rl s t (t + 1) = s + 1 := if_pos rfl
theorem rl_o {s t x : Nat} (h : x ≠ t + 1) : rl s t x = x := if_neg h
theorem rl_n (s t x : Nat) : rl s t x ≠ 0 ↔ x ≠ 0 := by
  unfold rl
  split
  · omega
  · exact Iff.rfl
theorem rl_s {s t x : Nat} : rl s t x = s + 1 ↔ x = s + 1 ∨ x = t + 1 := by
  unfold rl
  split <;> omega
set_option maxHeartbeats 4000000 in
theorem meld_hp {m m' : MS} {c c' : CS} {d : DS} {B : AH} {T z z' : Nat → Nat} {V R : Nat → List Nat} {FN FI : List Nat} {ow : Nat → Nat} (hj : JJ m c d B T z V R FN FI ow) {s t q : Nat} (hs : s < m.K) (ht : t < m.K) (ks : 2 ≤ m.kd s ∧ m.kd s ≤ 3) (kt : 2 ≤ m.kd t ∧ m.kd t ≤ 3) (st : s ≠ t)
    (em : m'.kd = m.kd ∧ m'.rt = u1 (u1 m.rt s q) t 0 ∧ m'.pl = m.pl ∧ m'.nu = m.nu ∧ m'.ky = m.ky ∧ m'.P.2.2 = m.P.2.2 ∧ m'.cs = m.cs ∧ m'.fV = m.fV ∧ m'.lV = m.lV ∧ m'.it = m.it ∧ m'.nx = m.nx ∧ m'.K = m.K ∧ m'.E = m.E ∧ m'.nm = m.nm ∧ m'.fn = m.fn ∧ m'.im = m.im ∧ m'.fi = m.fi ∧ m'.se = m.se)
    (ec : c'.ck = c.ck ∧ c'.cc = c.cc ∧ c'.lg = c.lg ∧ c'.nv = c.nv ∧ c'.f1 = c.f1 ∧ c'.l1 = c.l1 ∧ c'.vn = c.vn ∧ c'.vx = c.vx ∧ c'.kd = c.kd ∧ c'.ro = u1 (u1 c.ro s q) t 0 ∧ c'.he = u1 (u1 c.he s (c.he s + c.he t)) t 0 ∧ c'.vs = c.vs ∧ c'.la = c.la ∧ c'.tl = c.tl ∧ c'.dp = c.dp ∧ c'.pa = c.pa ∧ c'.K = c.K ∧ c'.ar = c.ar ∧ c'.cn = c.cn)
    (ep : WF c'.P (fun a => rl s t (T a)) z' ∧ BP m'.P ∧ (∀ a, rl s t (T a) = s + 1 → m'.P.1 a = c'.P.1 a ∧ m'.P.2.1 a = c'.P.2.1 a ∧ c'.cz a = z' a) ∧ (∀ a, rl s t (T a) ≠ s + 1 → m'.P.1 a = m.P.1 a ∧ m'.P.2.1 a = m.P.2.1 a ∧ z' a = z a) ∧ (∀ a, rl s t (T a) ≠ 0 → rl s t (T a) ≠ s + 1 → c'.P.1 a = c.P.1 a ∧ c'.P.2.1 a = c.P.2.1 a ∧ c'.P.2.2 a = c.P.2.2 a ∧ c'.cz a = c.cz a) ∧ (q ≠ 0 → rl s t (T q) = s + 1 ∧ c'.P.2.2 q = 0) ∧ (∀ a, rl s t (T a) = s + 1 → c'.P.2.2 a = 0 → a = q) ∧ c'.hy s = Sm (fun a => rl s t (T a)) (s + 1) (hv c'.P z') ∧ c'.hy t = 0 ∧ ∀ r, r ≠ s → r ≠ t → c'.hy r = c.hy r) :
    JJ m' c' d B (fun a => rl s t (T a)) z' V R FN FI ow := by
  obtain ⟨jb, js, jt, jr, jp, jd, jv, ji, jf, jw, jh, jz, jl⟩ := id hj
  obtain ⟨m1, m2, m3, m4, m5, m6, m7, m8, m9, m10, m11, m12, m13, m14, m15, m16, m17, m18⟩ := em
  obtain ⟨c1, c2, c3, c5, c6, c7, c8, c9, c10, c11, c12, c13, c14, c15, c16, c19, c20, c21, c22⟩ := ec
  obtain ⟨p1, p2, p3, p4, p5, p6, p7, p8, p9, p10⟩ := ep
  have κ0 : s + 1 ≠ 0 := Nat.succ_ne_zero s
  have hTN : TN (fun a => rl s t (T a)) := ⟨by show rl s t (T 0) = 0; rw [jt.2.1.1, rl_0], fun a ha => jt.2.1.2 a ((rl_n s t _).mp ha)⟩
  have ro : ∀ r, r ≠ s → r ≠ t → ∀ x, rl s t x = r + 1 ↔ x = r + 1 := fun r hr1 hr2 x => by
    unfold rl
    split <;> omega
  have ne2 : ∀ x, rl s t x ≠ s + 1 → x ≠ t + 1 := fun x hx g => hx (by rw [g]; exact rl_t s t)
  have H4 := hp4 (m := m) (m' := m') (c := c) (c' := c') (T := T) (T' := fun a => rl s t (T a)) (z := z) (z' := z') (V := V) (V' := V) (s := s) (t := t) hs ks kt jt jr jp jz m12 m1 m3 hTN (fun r hr1 hr2 a => ro r hr1 hr2 (T a)) (fun _ a => by
      show rl s t (T a) ≠ t + 1
      unfold rl
      split <;> omega) p1 (fun a ha hne => by
      have ha : rl s t (T a) ≠ 0 := ha
      have hne : rl s t (T a) ≠ s + 1 := hne
      obtain ⟨y1, y2, y3⟩ := p4 a hne
      obtain ⟨y4, y5, y6, y7⟩ := p5 a ha hne
      rw [m6, m5, c1]
      exact ⟨y4, y5, y6, y1, y2, rfl, rfl, rfl, y7, y3, rfl⟩) (fun a ha => by
      have ha : rl s t (T a) = s + 1 := ha
      obtain ⟨y1, y2, y3⟩ := p3 a ha
      have ta : T a ≠ 0 := (rl_n s t _).mp (by rw [ha]; exact κ0)
      refine ⟨y1, y2, ?_, y3, ?_⟩
      · rw [m5, c1]
        exact (jp.2 a ta).2.2.1
      · refine jz.2.2 a ta ?_
        rcases rl_s.mp ha with g | g
        · rw [g, Nat.add_sub_cancel]; exact ks.1
        · rw [g, Nat.add_sub_cancel]; exact kt.1) p2 (by
      rw [m2, c11, c12, u1_o _ _ st, u1_o _ _ st, u1_o _ _ st, u1_s, u1_s, u1_s]
      refine ⟨rfl, p6, p7, ?_, p8⟩
      rw [Sm_two jt.2.1 κ0 (Nat.succ_ne_zero t) (show s + 1 ≠ t + 1 by omega) κ0 hTN (fun a => rl_s) (fun _ => 1), (jz.1 s hs).1 ks.2, (jz.1 t ht).1 kt.2]) (fun _ => by
      rw [m2, c11, c12, u1_s, u1_s, u1_s]
      exact ⟨rfl, rfl, rfl, p9⟩) (fun r hr1 hr2 => by
      rw [m2, c11, c12, c13, c3, u1_o _ _ hr2, u1_o _ _ hr2, u1_o _ _ hr2, u1_o _ _ hr1, u1_o _ _ hr1, u1_o _ _ hr1]
      exact ⟨rfl, rfl, rfl, rfl, rfl, p10 r hr1 hr2⟩)
  have hkd : ∀ a, T a ≠ 0 → 2 ≤ m.kd (rl s t (T a) - 1) → 2 ≤ m.kd (T a - 1) := fun a ha h2 => by
    by_cases g : T a = t + 1
    · rw [g, Nat.add_sub_cancel]; exact kt.1
    · rw [rl_o g] at h2; exact h2
  refine ⟨jb, ?_, H4.1, H4.2.1, H4.2.2.1, ⟨fun a a0 => ?_, jd.2⟩, fun a ha => ?_, ?_, ?_, ?_, ?_, H4.2.2.2, ?_⟩
  · refine ⟨by rw [m12, c20]; exact js.1, by unfold AR; rw [c20, c21]; exact js.2.1, fun s' => ?_, fun s' hs' => ?_⟩
    · rw [m12]; exact js.2.2.1 s'
    · rw [m12] at hs'
      rw [c10, m1]
      exact js.2.2.2 s' hs'
  · show _ ↔ rl s t (T a) ≠ 0
    rw [rl_n]
    exact jd.1 a a0
  · rw [m8, c6, m9, c7, c5, m11, c8, m10, c9]
    exact jv a ((rl_n s t _).mp ha)
  · refine ⟨by rw [m11, m17]; exact ji.1, ji.2.1, ji.2.2.1, by rw [m16, m13]; exact ji.2.2.2.1, by rw [m16]; exact ji.2.2.2.2.1, by rw [m16]; exact ji.2.2.2.2.2.1, fun j h1 h2 => ?_⟩
    obtain ⟨t1, t2⟩ := ji.2.2.2.2.2.2 j h1 h2
    exact ⟨(rl_n s t _).mpr t1, t2⟩
  · obtain ⟨f1, f2, f3, f4, f5, f6⟩ := jf
    refine ⟨?_, f2, fun a ha => ?_, fun a h1 h2 => ?_, fun a ha => ?_, by rw [m14]; exact f6⟩
    · rw [m15]
      refine Chn_cg (fun y hy => ?_) f1
      refine (p4 y ?_).1
      rw [(f3 y hy).1, rl_0]
      exact Ne.symm κ0
    · rw [m14]
      show rl s t (T a) = 0 ∧ _
      rw [(f3 a ha).1, rl_0]
      exact ⟨rfl, (f3 a ha).2⟩
    · rw [m14] at h2
      rcases f4 a h1 h2 with g | g
      · exact Or.inl ((rl_n s t _).mpr g)
      · exact Or.inr g
    · rw [m14]
      exact f5 a ((rl_n s t _).mp ha)
  · refine ⟨fun r hr hkr => ?_, fun r u hr hu hkr hku => ?_⟩
    · rw [m12] at hr
      rw [m1] at hkr
      have rs : r ≠ s := fun g => by rw [g] at hkr; omega
      have rt : r ≠ t := fun g => by rw [g] at hkr; omega
      unfold JWs
      rw [m2, m4, m3, c12, c19, m10, m11, u1_o _ _ rt, u1_o _ _ rt, u1_o _ _ rs, u1_o _ _ rs]
      exact jw.1 r hr hkr
    · rw [m12] at hr hu
      rw [m1] at hkr hku
      rw [c19]
      exact jw.2 r u hr hu hkr hku
  · unfold JH
    rw [m7, m18, m1, c2, c22]
    refine ⟨jh.1, fun a ha => jh.2.1 a ((rl_n s t _).mp ha), fun a ha h2 => ?_, fun a e ha he h2 h3 => ?_⟩
    · have ta := (rl_n s t _).mp ha
      exact jh.2.2.1 a ta (hkd a ta h2)
    · have ta := (rl_n s t _).mp ha
      have te := (rl_n s t _).mp he
      exact jh.2.2.2 a e ta te (hkd a ta h2) (hkd e te h3)
  · refine jl.hp (m := m) (c := c) (d := d) (z := z) jt.1 m12 m1 (fun a ha h => ?_) (fun a ha h => ?_) c14 c15 c16 (fun r hr h => ?_) (fun a ha h => ?_) rfl
    · refine rl_o (fun g => ?_)
      rw [g, Nat.add_sub_cancel] at h
      omega
    · have h : m.kd (rl s t (T a) - 1) = 0 := h
      show T a = rl s t (T a)
      refine (rl_o (fun g => ?_)).symm
      rw [g, rl_t, Nat.add_sub_cancel] at h
      omega
    · rw [c11, u1_o _ _ (fun g => by rw [g] at h; omega), u1_o _ _ (fun g => by rw [g] at h; omega)]
    · have n1 : T a ≠ t + 1 := fun g => by rw [g, Nat.add_sub_cancel] at h; omega
      have n2 : T a ≠ s + 1 := fun g => by rw [g, Nat.add_sub_cancel] at h; omega
      obtain ⟨y4, y5, y6, -⟩ := p5 a ((rl_n s t _).mpr ha) (by rw [rl_o n1]; exact n2)
      rw [c1]
      exact ⟨y4, y5, y6, rfl, rfl⟩
