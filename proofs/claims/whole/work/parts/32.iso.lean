-- one picture under two numberings: the class's nodes by their addresses, the reference's by their places; ph n is the address of node n
def LZ (T : Nat → Nat) (m : Nat) : Prop := m = 0 ∨ T m ≠ 0
def Iso (ph : Nat → Nat) (Pc Pm : PT) (S T : Nat → Nat) : Prop :=
  ph 0 = 0 ∧ (∀ a, T a ≠ 0 → ph a ≠ 0 ∧ S (ph a) = T a ∧ Pc.1 (ph a) = ph (Pm.1 a) ∧ Pc.2.1 (ph a) = ph (Pm.2.1 a) ∧ Pc.2.2 (ph a) = ph (Pm.2.2 a) ∧ LZ T (Pm.1 a) ∧ LZ T (Pm.2.1 a) ∧ LZ T (Pm.2.2 a)) ∧ ∀ a b, T a ≠ 0 → T b ≠ 0 → ph a = ph b → a = b
theorem Iso.inj {ph : Nat → Nat} {Pc Pm : PT} {S T : Nat → Nat} (h : Iso ph Pc Pm S T) {a b : Nat} (ha : LZ T a) (hb : LZ T b) : ph a = ph b ↔ a = b := by
  refine ⟨fun q => ?_, fun q => by rw [q]⟩
  rcases ha with rfl | ha
  · rcases hb with rfl | hb
    · rfl
    · rw [h.1] at q
      exact absurd q.symm (h.2.1 b hb).1
  · rcases hb with rfl | hb
    · rw [h.1] at q
      exact absurd q (h.2.1 a ha).1
    · exact h.2.2 a b ha hb q
theorem Iso.z0 {ph : Nat → Nat} {Pc Pm : PT} {S T : Nat → Nat} (h : Iso ph Pc Pm S T) {a : Nat} (ha : LZ T a) : ph a = 0 ↔ a = 0 := by
  have := h.inj ha (Or.inl rfl : LZ T 0)
  rw [h.1] at this
  exact this
/-- a picture that is well-formed under one numbering is so under the other -/
theorem Iso.wf {ph : Nat → Nat} {Pc Pm : PT} {S T z : Nat → Nat} (h : Iso ph Pc Pm S T) (hT0 : T 0 = 0) (hw : WF Pc S z) : WF Pm T (fun a => z (ph a)) := by
  obtain ⟨s0, z0, hw⟩ := hw
  refine ⟨hT0, by show z (ph 0) = 0; rw [h.1]; exact z0, fun a ha => ?_⟩
  obtain ⟨i1, i2, i3, i4, i5, j1, j2, j3⟩ := h.2.1 a ha
  have hla : LZ T a := Or.inr ha
  obtain ⟨w1, w2, w3, w4, w5⟩ := hw (ph a) (by rw [i2]; exact ha)
  rw [i3] at w1 w4 w5
  rw [i4] at w2 w4 w5
  rw [i5] at w3
  refine ⟨fun q => ?_, fun q => ?_, fun q => ?_, fun q => ?_, w5⟩
  · have hl : T (Pm.1 a) ≠ 0 := by rcases j1 with e | e; exact absurd e q; exact e
    obtain ⟨k1, k2, k3, k4, k5, k6, k7, k8⟩ := h.2.1 _ hl
    obtain ⟨v1, v2⟩ := w1 (fun e => q ((h.z0 j1).mp e))
    rw [k5] at v1
    exact ⟨(h.inj k8 hla).mp v1, by rw [← k2, v2, i2]⟩
  · have hl : T (Pm.2.1 a) ≠ 0 := by rcases j2 with e | e; exact absurd e q; exact e
    obtain ⟨k1, k2, k3, k4, k5, k6, k7, k8⟩ := h.2.1 _ hl
    obtain ⟨v1, v2⟩ := w2 (fun e => q ((h.z0 j2).mp e))
    rw [k5] at v1
    exact ⟨(h.inj k8 hla).mp v1, by rw [← k2, v2, i2]⟩
  · have hl : T (Pm.2.2 a) ≠ 0 := by rcases j3 with e | e; exact absurd e q; exact e
    obtain ⟨k1, k2, k3, k4, k5, k6, k7, k8⟩ := h.2.1 _ hl
    obtain ⟨v1, v2⟩ := w3 (fun e => q ((h.z0 j3).mp e))
    refine ⟨?_, by rw [← k2, v2, i2]⟩
    rw [k3, k4] at v1
    rcases v1 with e | e
    · exact Or.inl ((h.inj k6 hla).mp e)
    · exact Or.inr ((h.inj k7 hla).mp e)
  · exact (h.z0 j1).mp (w4 (by rw [q]))
set_option maxHeartbeats 1000000 in
theorem Iso.rot {ph : Nat → Nat} {Pc Pm : PT} {S T z : Nat → Nat} (h : Iso ph Pc Pm S T) (hT0 : T 0 = 0) (hw : WF Pc S z) {n : Nat} (hn : T n ≠ 0) (hu : Pm.2.2 n ≠ 0) : Iso ph (rot Pc (ph n)) (rot Pm n) S T := by
  have hwm := h.wf hT0 hw
  obtain ⟨i1, i2, i3, i4, i5, j1, j2, j3⟩ := h.2.1 n hn
  have hp : T (Pm.2.2 n) ≠ 0 := by rcases j3 with e | e; exact absurd e hu; exact e
  obtain ⟨p1, p2, p3, p4, p5, q1, q2, q3⟩ := h.2.1 _ hp
  have hln : LZ T n := Or.inr hn
  have hlp : LZ T (Pm.2.2 n) := Or.inr hp
  have hSn : S (ph n) ≠ 0 := by rw [i2]; exact hn
  have huc : Pc.2.2 (ph n) ≠ 0 := by rw [i5]; exact p1
  obtain ⟨d1, d2, d3, -⟩ := rot_dist hwm hn hu
  obtain ⟨e1, e2, e3, -⟩ := rot_dist hw hSn huc
  have hgl : Pm.2.2 (Pm.2.2 n) ≠ 0 → Pc.1 (ph (Pm.2.2 (Pm.2.2 n))) = ph (Pm.1 (Pm.2.2 (Pm.2.2 n))) ∧ LZ T (Pm.1 (Pm.2.2 (Pm.2.2 n))) := fun q => by
    have hg : T (Pm.2.2 (Pm.2.2 n)) ≠ 0 := by rcases q3 with e | e; exact absurd e q; exact e
    obtain ⟨g1, g2, g3, g4, g5, g6, g7, g8⟩ := h.2.1 _ hg
    exact ⟨g3, g6⟩
  have hcond : ∀ x, LZ T x → ((ph x = ph (Pm.2.2 (Pm.2.2 n)) ∧ ph (Pm.2.2 (Pm.2.2 n)) ≠ 0 ∧ Pc.1 (ph (Pm.2.2 (Pm.2.2 n))) = ph (Pm.2.2 n)) ↔ (x = Pm.2.2 (Pm.2.2 n) ∧ Pm.2.2 (Pm.2.2 n) ≠ 0 ∧ Pm.1 (Pm.2.2 (Pm.2.2 n)) = Pm.2.2 n)) := by
    intro x hx
    by_cases g0 : Pm.2.2 (Pm.2.2 n) = 0
    · constructor
      · intro q; exact absurd ((h.z0 q3).mpr g0) q.2.1
      · intro q; exact absurd g0 q.2.1
    · obtain ⟨a1, a2⟩ := hgl g0
      rw [a1, h.inj hx q3, h.inj a2 hlp]
      exact ⟨fun q => ⟨q.1, g0, q.2.2⟩, fun q => ⟨q.1, fun z => g0 ((h.z0 q3).mp z), q.2.2⟩⟩
  have hcond2 : ∀ x, LZ T x → ((ph x = ph (Pm.2.2 (Pm.2.2 n)) ∧ ph (Pm.2.2 (Pm.2.2 n)) ≠ 0 ∧ Pc.1 (ph (Pm.2.2 (Pm.2.2 n))) ≠ ph (Pm.2.2 n)) ↔ (x = Pm.2.2 (Pm.2.2 n) ∧ Pm.2.2 (Pm.2.2 n) ≠ 0 ∧ Pm.1 (Pm.2.2 (Pm.2.2 n)) ≠ Pm.2.2 n)) := by
    intro x hx
    by_cases g0 : Pm.2.2 (Pm.2.2 n) = 0
    · constructor
      · intro q; exact absurd ((h.z0 q3).mpr g0) q.2.1
      · intro q; exact absurd g0 q.2.1
    · obtain ⟨a1, a2⟩ := hgl g0
      rw [a1, h.inj hx q3, ne_eq, ne_eq, ne_eq, ne_eq, h.inj a2 hlp]
      exact ⟨fun q => ⟨q.1, g0, q.2.2⟩, fun q => ⟨q.1, fun z => g0 ((h.z0 q3).mp z), q.2.2⟩⟩
  refine ⟨h.1, fun x hx => ?_, h.2.2⟩
  obtain ⟨x1, x2, x3, x4, x5, y1, y2, y3⟩ := h.2.1 x hx
  have hlx : LZ T x := Or.inr hx
  refine ⟨x1, x2, ?_⟩
  by_cases h1 : Pm.1 (Pm.2.2 n) = n
  · have h1c : Pc.1 (Pc.2.2 (ph n)) = ph n := by rw [i5, p3, h1]
    obtain ⟨A1, A2, A3⟩ := rot_A h1 hu d1 d2 d3
    obtain ⟨B1, B2, B3⟩ := rot_A h1c huc e1 e2 e3
    rw [A1 x, A2 x, A3 x, B1 (ph x), B2 (ph x), B3 (ph x)]
    simp only [i5, p5, i4, x3, x4, x5, h.inj hlx hlp, h.inj hlx hln, h.inj hlx j2, hcond x hlx, hcond2 x hlx, ne_eq, h.z0 j2]
    refine ⟨?_, ?_, ?_, ?_, ?_, ?_⟩
    · split
      · rfl
      · split <;> rfl
    · split
      · rfl
      · split <;> rfl
    · split
      · rfl
      · split
        · rfl
        · split <;> rfl
    · split
      · exact j2
      · split
        · exact hln
        · exact y1
    · split
      · exact hlp
      · split
        · exact hln
        · exact y2
    · split
      · exact q3
      · split
        · exact hln
        · split
          · exact hlp
          · exact y3
  · have h1c : ¬ Pc.1 (Pc.2.2 (ph n)) = ph n := by rw [i5, p3, h.inj q1 hln]; exact h1
    obtain ⟨A1, A2, A3⟩ := rot_B h1 hu d1 d2 d3
    obtain ⟨B1, B2, B3⟩ := rot_B h1c huc e1 e2 e3
    rw [A1 x, A2 x, A3 x, B1 (ph x), B2 (ph x), B3 (ph x)]
    simp only [i5, p5, i3, x3, x4, x5, h.inj hlx hlp, h.inj hlx hln, h.inj hlx j1, hcond x hlx, hcond2 x hlx, ne_eq, h.z0 j1]
    refine ⟨?_, ?_, ?_, ?_, ?_, ?_⟩
    · split
      · rfl
      · split <;> rfl
    · split
      · rfl
      · split <;> rfl
    · split
      · rfl
      · split
        · rfl
        · split <;> rfl
    · split
      · exact hlp
      · split
        · exact hln
        · exact y1
    · split
      · exact j1
      · split
        · exact hln
        · exact y2
    · split
      · exact q3
      · split
        · exact hln
        · split
          · exact hlp
          · exact y3
