-- well-formed pictures: S n is the number of the tree in which node n is (0: in none), z n how many nodes are there and below
def WN (l r u S z : Nat → Nat) (n : Nat) : Prop :=
  (l n ≠ 0 → u (l n) = n ∧ S (l n) = S n) ∧ (r n ≠ 0 → u (r n) = n ∧ S (r n) = S n) ∧ (u n ≠ 0 → (l (u n) = n ∨ r (u n) = n) ∧ S (u n) = S n) ∧ (l n = r n → l n = 0) ∧ z n = 1 + z (l n) + z (r n)
def WF (P : PT) (S z : Nat → Nat) : Prop := S 0 = 0 ∧ z 0 = 0 ∧ ∀ n, S n ≠ 0 → WN P.1 P.2.1 P.2.2 S z n
theorem WF.up_lt {P : PT} {S z : Nat → Nat} (h : WF P S z) {n : Nat} (hn : S n ≠ 0) (hu : P.2.2 n ≠ 0) : z n < z (P.2.2 n) ∧ S (P.2.2 n) = S n := by
  obtain ⟨s0, z0, hw⟩ := h
  obtain ⟨-, -, h3, -, -⟩ := hw n hn
  obtain ⟨h4, h5⟩ := h3 hu
  obtain ⟨-, -, -, -, h6⟩ := hw (P.2.2 n) (by rw [h5]; exact hn)
  refine ⟨?_, h5⟩
  rcases h4 with h4 | h4 <;> rw [h4] at h6 <;> omega
theorem WF.pos {P : PT} {S z : Nat → Nat} (h : WF P S z) {n : Nat} (hn : S n ≠ 0) : 1 ≤ z n := by
  obtain ⟨-, -, -, -, h6⟩ := h.2.2 n hn
  omega
set_option maxHeartbeats 1000000 in
/-- a turn to the right, by places -/
theorem turn_r {l r u S z l' r' u' z' : Nat → Nat} {n p g c : Nat} (s0 : S 0 = 0) (z0 : z 0 = 0) (hw : ∀ x, S x ≠ 0 → WN l r u S z x) (hn : S n ≠ 0) (e1 : u n = p) (hp : p ≠ 0) (e2 : u p = g) (e3 : l p = n) (e4 : r n = c)
    (hl : ∀ x, l' x = if x = p then c else if x = g ∧ g ≠ 0 ∧ l g = p then n else l x) (hr : ∀ x, r' x = if x = n then p else if x = g ∧ g ≠ 0 ∧ l g ≠ p then n else r x)
    (hu : ∀ x, u' x = if x = n then g else if x = p then n else if x = c ∧ c ≠ 0 then p else u x) (hz : ∀ x, z' x = if x = n then z p else if x = p then 1 + z c + z (r p) else z x)
    (d1 : p ≠ n) (d2 : g ≠ p) (d3 : g ≠ n) (d4 : c ≠ n) (d5 : c ≠ p) (d6 : c ≠ 0 → c ≠ g) : ∀ x, S x ≠ 0 → WN l' r' u' S z' x := by
  intro x hx
  have n0 : n ≠ 0 := fun q => hn (by rw [q]; exact s0)
  have hwn := hw n hn
  have sp : S p = S n := by
    have := (hwn.2.2.1 (by rw [e1]; exact hp)).2
    rw [e1] at this; exact this
  have hwp := hw p (by rw [sp]; exact hn)
  have hwg : g ≠ 0 → WN l r u S z g := fun q => hw g (by
    have := (hwp.2.2.1 (by rw [e2]; exact q)).2
    rw [e2] at this; rw [this, sp]; exact hn)
  have hwc : c ≠ 0 → WN l r u S z c := fun q => hw c (by
    have := (hwn.2.1 (by rw [e4]; exact q)).2
    rw [e4] at this; rw [this]; exact hn)
  have hwx := hw x hx
  clear hw
  unfold WN at *
  by_cases xn : x = n
  · subst xn
    refine ⟨?_, ?_, ?_, ?_, ?_⟩ <;> grind (splits := 40)
  · by_cases xp : x = p
    · subst xp
      refine ⟨?_, ?_, ?_, ?_, ?_⟩ <;> grind (splits := 40)
    · by_cases xg : x = g
      · subst xg
        refine ⟨?_, ?_, ?_, ?_, ?_⟩ <;> grind (splits := 40)
      · by_cases xc : x = c
        · subst xc
          refine ⟨?_, ?_, ?_, ?_, ?_⟩ <;> grind (splits := 40)
        · refine ⟨?_, ?_, ?_, ?_, ?_⟩ <;> grind (splits := 40)
