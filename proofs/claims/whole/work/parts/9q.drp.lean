-- drop: what is common
theorem BP_tk {P : PT} (h : BP P) {x ch : Nat} (hc : ch ≤ 20002) : BP (tkP P x ch) := by
  intro n
  obtain ⟨h1, h2, h3⟩ := h n
  rw [tk_l, tk_r]
  refine ⟨?_, ?_, ?_⟩
  · split
    · exact hc
    · exact h1
  · split
    · exact hc
    · exact h2
  · have e : (tkP P x ch).2.2 = if ch = 0 then P.2.2 else u1 P.2.2 ch (P.2.2 x) := by
      rw [tk_eq]
      by_cases p0 : P.2.2 x = 0
      · rw [if_pos p0]
      · rw [if_neg p0]
        by_cases g : P.1 (P.2.2 x) = x
        · rw [if_pos g]
        · rw [if_neg g]
    rw [e]
    split
    · exact h3
    · by_cases g : n = ch
      · rw [g, u1_s]; exact (h x).2.2
      · rw [u1_o _ _ g]; exact h3
theorem BP_let {m : MS} (h : BP m.P) {x : Nat} (hf : m.fn ≤ 20002) : BP (mLetN m x).P := by
  intro n
  obtain ⟨h1, h2, h3⟩ := h n
  refine ⟨?_, h2, h3⟩
  show u1 m.P.1 x m.fn n ≤ _
  by_cases g : n = x
  · rw [g, u1_s]; exact hf
  · rw [u1_o _ _ g]; exact h1
theorem tk_root {P : PT} {T z : Nat → Nat} (hW : WF P T z) {κ ρ x ch : Nat} (κ0 : κ ≠ 0) (hx : T x = κ) (hc : (P.1 x = 0 ∧ P.2.1 x = ch) ∨ (P.2.1 x = 0 ∧ P.1 x = ch)) (hρ : ρ ≠ 0 → T ρ = κ ∧ P.2.2 ρ = 0) (hu : ∀ a, T a = κ → P.2.2 a = 0 → a = ρ) :
    ((if P.2.2 x = 0 then ch else ρ) ≠ 0 → u1 T x 0 (if P.2.2 x = 0 then ch else ρ) = κ ∧ (tkP P x ch).2.2 (if P.2.2 x = 0 then ch else ρ) = 0) ∧ ∀ b, u1 T x 0 b = κ → (tkP P x ch).2.2 b = 0 → b = (if P.2.2 x = 0 then ch else ρ) := by
  have tx : T x ≠ 0 := by rw [hx]; exact κ0
  have chp : ch ≠ 0 → P.2.2 ch = x ∧ T ch = κ ∧ z ch < z x := fun c0 => by
    rcases hc with ⟨-, g⟩ | ⟨-, g⟩
    · rw [← g] at c0 ⊢; exact ⟨((hW.2.2 x tx).2.1 c0).1, ((hW.2.2 x tx).2.1 c0).2.trans hx, (hW.mu x tx).2 c0⟩
    · rw [← g] at c0 ⊢; exact ⟨((hW.2.2 x tx).1 c0).1, ((hW.2.2 x tx).1 c0).2.trans hx, (hW.mu x tx).1 c0⟩
  have x0 := hW.n0 tx
  by_cases u0 : P.2.2 x = 0
  · rw [if_pos u0]
    refine ⟨fun c0 => ?_, fun b hb hub => ?_⟩
    · obtain ⟨g1, g2, g3⟩ := chp c0
      rw [u1_o _ _ (fun q => by rw [q] at g3; omega), tk_u P x c0, if_pos rfl]
      exact ⟨g2, u0⟩
    · have bx : b ≠ x := fun g => by rw [g, u1_s] at hb; exact κ0 hb.symm
      rw [u1_o _ _ bx] at hb
      rw [tk_u P x (hW.n0 (by rw [hb]; exact κ0))] at hub
      by_cases g : b = ch
      · exact g
      · rw [if_neg g] at hub
        exact absurd ((hu b hb hub).trans (hu x hx u0).symm) bx
  · rw [if_neg u0]
    refine ⟨fun c0 => ?_, fun b hb hub => ?_⟩
    · obtain ⟨r1, r2⟩ := hρ c0
      have rx : ρ ≠ x := fun g => u0 (by rw [← g]; exact r2)
      rw [u1_o _ _ rx, tk_u P x c0]
      refine ⟨r1, ?_⟩
      rw [if_neg (fun g => ?_)]
      · exact r2
      · have := (chp (by rw [← g]; exact c0)).1
        rw [← g, r2] at this
        exact x0 this.symm
    · have bx : b ≠ x := fun g => by rw [g, u1_s] at hb; exact κ0 hb.symm
      rw [u1_o _ _ bx] at hb
      rw [tk_u P x (hW.n0 (by rw [hb]; exact κ0))] at hub
      by_cases g : b = ch
      · rw [if_pos g] at hub; exact absurd hub u0
      · rw [if_neg g] at hub
        exact hu b hb hub
theorem JM.mv {m m' : MS} {c c' : CS} {s δ : Nat} (h : JM m c s) (e1 : c'.pu = c.pu) (e2 : c'.st s = c.st s + nI δ) (e2' : ∀ r, r ≠ s → c'.st r = c.st r) (e3 : m'.pu = m.pu) (e4 : m'.st = m.st) (e5 : m'.K = m.K) (hsp : m'.sp = m.sp + δ) (hb : m'.sp ≤ 100000) (f : c'.fk = c.fk ∧ c'.fv = c.fv ∧ m'.fk = m.fk ∧ m'.fv = m.fv ∧ c'.E = m'.E ∧ m'.se = m.se ∧ c'.cn = c.cn) (l1 : c'.N = c.N) (l2 : m'.N = m.N) (l3 : c'.rO = c.rO) (l4 : c'.rP = c.rP) (l5 : c'.rT = c.rT) (l6 : c'.rQ = c.rQ) (l7 : m'.rO = m.rO) (l8 : m'.rP = m.rP) (l9 : m'.rT = m.rT) (l0 : m'.rQ = m.rQ) : JM m' c' s := by
  obtain ⟨a1, ⟨a2, -⟩, ⟨g1, g2, g3, g4, g5⟩, ⟨n1, n2, n3, n4, n5, n6⟩, t, ht⟩ := h
  obtain ⟨f1, f2, f3, f4, f5, f6, f7⟩ := f
  refine ⟨fun r hr => ⟨?_, fun q => ?_⟩, ⟨?_, hb⟩, ⟨?_, ?_, f5, ?_, ?_⟩, ⟨?_, ?_, ?_, ?_, ?_, ?_⟩, t, ?_⟩
  · rw [e1, e3]; exact (a1 r (by rw [← e5]; exact hr)).1
  · rw [e2' r q, e4]; exact (a1 r (by rw [← e5]; exact hr)).2 q
  · rw [e2, e4, a2, hsp, Int32.add_assoc, nI_add]
  · rw [f1, f3]; exact g1
  · rw [f2, f4]; exact g2
  · rw [f6, l2]; exact g4
  · rw [f7, l2]; exact g5
  · rw [l1, l2]; exact n1
  · rw [l2]; exact n2
  · rw [l3, l7]; exact n3
  · rw [l4, l8]; exact n4
  · rw [l5, l9]; exact n5
  · rw [l6, l0]; exact n6
  · rw [l2, l9]; exact ht
