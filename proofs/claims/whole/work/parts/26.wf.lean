-- well-formed pictures: S n is the number of the tree in which node n is (0: in none), z n how many nodes are there and below
def WN (l r u S z : Nat → Nat) (n : Nat) : Prop :=
  (l n ≠ 0 → u (l n) = n ∧ S (l n) = S n) ∧ (r n ≠ 0 → u (r n) = n ∧ S (r n) = S n) ∧ (u n ≠ 0 → (l (u n) = n ∨ r (u n) = n) ∧ S (u n) = S n) ∧ (l n = r n → l n = 0) ∧ z n = 1 + z (l n) + z (r n)
def WF (P : PT) (S z : Nat → Nat) : Prop := S 0 = 0 ∧ z 0 = 0 ∧ ∀ n, S n ≠ 0 → WN P.1 P.2.1 P.2.2 S z n
theorem WF.up_lt {P : PT} {S z : Nat → Nat} (h : WF P S z) {n : Nat} (hn : S n ≠ 0) (hu : P.2.2 n ≠ 0) : z n < z (P.2.2 n) ∧ S (P.2.2 n) = S n := by
  obtain ⟨s0, z0, hw⟩ := h
  obtain ⟨-, -, h3, -, -⟩ := hw n hn
  obtain ⟨h4, h5⟩ := h3 hu
  obtain ⟨-, -, -, -, h6⟩ := hw (P.2.2 n) (by rw [h5]; exact hn)
  refine ⟨?_, h5⟩
  rcases h4 with h4 | h4 <;> rw [h4] at h6 <;> omega
theorem WF.pos {P : PT} {S z : Nat → Nat} (h : WF P S z) {n : Nat} (hn : S n ≠ 0) : 1 ≤ z n := by
  obtain ⟨-, -, -, -, h6⟩ := h.2.2 n hn
  omega
set_option maxHeartbeats 1000000 in
/-- a turn to the right, by places -/
theorem turn_r {l r u S z l' r' u' z' : Nat → Nat} {n p g c : Nat} (s0 : S 0 = 0) (z0 : z 0 = 0) (hw : ∀ x, S x ≠ 0 → WN l r u S z x) (hn : S n ≠ 0) (e1 : u n = p) (hp : p ≠ 0) (e2 : u p = g) (e3 : l p = n) (e4 : r n = c)
    (hl : ∀ x, l' x = if x = p then c else if x = g ∧ g ≠ 0 ∧ l g = p then n else l x) (hr : ∀ x, r' x = if x = n then p else if x = g ∧ g ≠ 0 ∧ l g ≠ p then n else r x)
    (hu : ∀ x, u' x = if x = n then g else if x = p then n else if x = c ∧ c ≠ 0 then p else u x) (hz : ∀ x, z' x = if x = n then z p else if x = p then 1 + z c + z (r p) else z x)
    (d1 : p ≠ n) (d2 : g ≠ p) (d3 : g ≠ n) (d4 : c ≠ n) (d5 : c ≠ p) (d6 : c ≠ 0 → c ≠ g) : ∀ x, S x ≠ 0 → WN l' r' u' S z' x := by
  intro x hx
  have n0 : n ≠ 0 := fun q => hn (by rw [q]; exact s0)
  have hwn := hw n hn
  have sp : S p = S n := by
    have := (hwn.2.2.1 (by rw [e1]; exact hp)).2
    rw [e1] at this; exact this
  have hwp := hw p (by rw [sp]; exact hn)
  have hwg : g ≠ 0 → WN l r u S z g := fun q => hw g (by
    have := (hwp.2.2.1 (by rw [e2]; exact q)).2
    rw [e2] at this; rw [this, sp]; exact hn)
  have hwc : c ≠ 0 → WN l r u S z c := fun q => hw c (by
    have := (hwn.2.1 (by rw [e4]; exact q)).2
    rw [e4] at this; rw [this]; exact hn)
  have hwx := hw x hx
  clear hw
  unfold WN at *
  by_cases xn : x = n
  · subst xn
    refine ⟨?_, ?_, ?_, ?_, ?_⟩ <;> grind (splits := 40)
  · by_cases xp : x = p
    · subst xp
      refine ⟨?_, ?_, ?_, ?_, ?_⟩ <;> grind (splits := 40)
    · by_cases xg : x = g
      · subst xg
        refine ⟨?_, ?_, ?_, ?_, ?_⟩ <;> grind (splits := 40)
      · by_cases xc : x = c
        · subst xc
          refine ⟨?_, ?_, ?_, ?_, ?_⟩ <;> grind (splits := 40)
        · refine ⟨?_, ?_, ?_, ?_, ?_⟩ <;> grind (splits := 40)
theorem WN.sw {l r u S z : Nat → Nat} {n : Nat} (h : WN l r u S z n) : WN r l u S z n := by
  obtain ⟨h1, h2, h3, h4, h5⟩ := h
  refine ⟨h2, h1, fun q => ⟨(h3 q).1.symm, (h3 q).2⟩, fun q => ?_, by omega⟩
  rw [q]
  exact h4 q.symm
/-- the sizes behind a turn -/
def rz (P : PT) (z : Nat → Nat) (n : Nat) : Nat → Nat := fun x => if x = n then z (P.2.2 n) else if x = P.2.2 n then (if P.1 (P.2.2 n) = n then 1 + z (P.2.1 n) + z (P.2.1 (P.2.2 n)) else 1 + z (P.1 n) + z (P.1 (P.2.2 n))) else z x
theorem rot_dist {P : PT} {S z : Nat → Nat} (h : WF P S z) {n : Nat} (hn : S n ≠ 0) (hu : P.2.2 n ≠ 0) :
    P.2.2 n ≠ n ∧ P.2.2 (P.2.2 n) ≠ P.2.2 n ∧ P.2.2 (P.2.2 n) ≠ n ∧ (P.1 n ≠ 0 → z (P.1 n) < z n) ∧ (P.2.1 n ≠ 0 → z (P.2.1 n) < z n) ∧ z n < z (P.2.2 n) ∧ (P.2.2 (P.2.2 n) ≠ 0 → z (P.2.2 n) < z (P.2.2 (P.2.2 n))) := by
  obtain ⟨a1, a2⟩ := h.up_lt hn hu
  have hp : S (P.2.2 n) ≠ 0 := by rw [a2]; exact hn
  have hz := (h.2.2 n hn).2.2.2.2
  have n0 : n ≠ 0 := fun q => hn (by rw [q]; exact h.1)
  refine ⟨fun q => by rw [q] at a1; omega, fun q => ?_, fun q => ?_, fun _ => by omega, fun _ => by omega, a1, fun q => (h.up_lt hp q).1⟩
  · have := (h.up_lt hp (by rw [q]; exact hu)).1
    rw [q] at this; omega
  · have := (h.up_lt hp (by rw [q]; exact n0)).1
    rw [q] at this; omega
theorem turnA (l r u : Nat → Nat) (n p g c : Nat) (hu : p ≠ 0) (d1 : p ≠ n) (d2 : g ≠ p) (d3 : g ≠ n) :
    (∀ x, (if g = 0 then ((u1 l p c, u1 r n p, u1 (u1 (if c = 0 then u else u1 u c p) p n) n g) : PT) else if l g = p then (u1 (u1 l p c) g n, u1 r n p, u1 (u1 (if c = 0 then u else u1 u c p) p n) n g) else (u1 l p c, u1 (u1 r n p) g n, u1 (u1 (if c = 0 then u else u1 u c p) p n) n g)).1 x = if x = p then c else if x = g ∧ g ≠ 0 ∧ l g = p then n else l x) ∧
    (∀ x, (if g = 0 then ((u1 l p c, u1 r n p, u1 (u1 (if c = 0 then u else u1 u c p) p n) n g) : PT) else if l g = p then (u1 (u1 l p c) g n, u1 r n p, u1 (u1 (if c = 0 then u else u1 u c p) p n) n g) else (u1 l p c, u1 (u1 r n p) g n, u1 (u1 (if c = 0 then u else u1 u c p) p n) n g)).2.1 x = if x = n then p else if x = g ∧ g ≠ 0 ∧ l g ≠ p then n else r x) ∧
    (∀ x, (if g = 0 then ((u1 l p c, u1 r n p, u1 (u1 (if c = 0 then u else u1 u c p) p n) n g) : PT) else if l g = p then (u1 (u1 l p c) g n, u1 r n p, u1 (u1 (if c = 0 then u else u1 u c p) p n) n g) else (u1 l p c, u1 (u1 r n p) g n, u1 (u1 (if c = 0 then u else u1 u c p) p n) n g)).2.2 x = if x = n then g else if x = p then n else if x = c ∧ c ≠ 0 then p else u x) := by
  refine ⟨fun x => ?_, fun x => ?_, fun x => ?_⟩
  · by_cases g0 : g = 0
    · rw [if_pos g0]; simp only [u1]; grind
    · rw [if_neg g0]
      by_cases gl : l g = p
      · rw [if_pos gl]; simp only [u1]; grind
      · rw [if_neg gl]; simp only [u1]; grind
  · by_cases g0 : g = 0
    · rw [if_pos g0]; simp only [u1]; grind
    · rw [if_neg g0]
      by_cases gl : l g = p
      · rw [if_pos gl]; simp only [u1]; grind
      · rw [if_neg gl]; simp only [u1]; grind
  · have hU : ∀ x, (if c = 0 then u else u1 u c p) x = if x = c ∧ c ≠ 0 then p else u x := by
      intro x
      by_cases c0 : c = 0
      · rw [if_pos c0]; grind
      · rw [if_neg c0]; unfold u1; grind
    by_cases g0 : g = 0
    · rw [if_pos g0]; show u1 (u1 _ p n) n g x = _; unfold u1; rw [← hU x]; rfl
    · rw [if_neg g0]
      by_cases gl : l g = p
      · rw [if_pos gl]; show u1 (u1 _ p n) n g x = _; unfold u1; rw [← hU x]; rfl
      · rw [if_neg gl]; show u1 (u1 _ p n) n g x = _; unfold u1; rw [← hU x]; rfl
theorem turnB (l r u : Nat → Nat) (n p g c : Nat) (hu : p ≠ 0) (d1 : p ≠ n) (d2 : g ≠ p) (d3 : g ≠ n) :
    (∀ x, (if g = 0 then ((u1 l n p, u1 r p c, u1 (u1 (if c = 0 then u else u1 u c p) p n) n g) : PT) else if l g = p then (u1 (u1 l n p) g n, u1 r p c, u1 (u1 (if c = 0 then u else u1 u c p) p n) n g) else (u1 l n p, u1 (u1 r p c) g n, u1 (u1 (if c = 0 then u else u1 u c p) p n) n g)).1 x = if x = n then p else if x = g ∧ g ≠ 0 ∧ l g = p then n else l x) ∧
    (∀ x, (if g = 0 then ((u1 l n p, u1 r p c, u1 (u1 (if c = 0 then u else u1 u c p) p n) n g) : PT) else if l g = p then (u1 (u1 l n p) g n, u1 r p c, u1 (u1 (if c = 0 then u else u1 u c p) p n) n g) else (u1 l n p, u1 (u1 r p c) g n, u1 (u1 (if c = 0 then u else u1 u c p) p n) n g)).2.1 x = if x = p then c else if x = g ∧ g ≠ 0 ∧ l g ≠ p then n else r x) ∧
    (∀ x, (if g = 0 then ((u1 l n p, u1 r p c, u1 (u1 (if c = 0 then u else u1 u c p) p n) n g) : PT) else if l g = p then (u1 (u1 l n p) g n, u1 r p c, u1 (u1 (if c = 0 then u else u1 u c p) p n) n g) else (u1 l n p, u1 (u1 r p c) g n, u1 (u1 (if c = 0 then u else u1 u c p) p n) n g)).2.2 x = if x = n then g else if x = p then n else if x = c ∧ c ≠ 0 then p else u x) := by
  refine ⟨fun x => ?_, fun x => ?_, fun x => ?_⟩
  · by_cases g0 : g = 0
    · rw [if_pos g0]; simp only [u1]; grind
    · rw [if_neg g0]
      by_cases gl : l g = p
      · rw [if_pos gl]; simp only [u1]; grind
      · rw [if_neg gl]; simp only [u1]; grind
  · by_cases g0 : g = 0
    · rw [if_pos g0]; simp only [u1]; grind
    · rw [if_neg g0]
      by_cases gl : l g = p
      · rw [if_pos gl]; simp only [u1]; grind
      · rw [if_neg gl]; simp only [u1]; grind
  · have hU : ∀ x, (if c = 0 then u else u1 u c p) x = if x = c ∧ c ≠ 0 then p else u x := by
      intro x
      by_cases c0 : c = 0
      · rw [if_pos c0]; grind
      · rw [if_neg c0]; unfold u1; grind
    by_cases g0 : g = 0
    · rw [if_pos g0]; show u1 (u1 _ p n) n g x = _; unfold u1; rw [← hU x]; rfl
    · rw [if_neg g0]
      by_cases gl : l g = p
      · rw [if_pos gl]; show u1 (u1 _ p n) n g x = _; unfold u1; rw [← hU x]; rfl
      · rw [if_neg gl]; show u1 (u1 _ p n) n g x = _; unfold u1; rw [← hU x]; rfl
/-- a turn, by places -/
theorem rot_A {P : PT} {n : Nat} (h1 : P.1 (P.2.2 n) = n) (hu : P.2.2 n ≠ 0) (d1 : P.2.2 n ≠ n) (d2 : P.2.2 (P.2.2 n) ≠ P.2.2 n) (d3 : P.2.2 (P.2.2 n) ≠ n) :
    (∀ x, (rot P n).1 x = if x = P.2.2 n then P.2.1 n else if x = P.2.2 (P.2.2 n) ∧ P.2.2 (P.2.2 n) ≠ 0 ∧ P.1 (P.2.2 (P.2.2 n)) = P.2.2 n then n else P.1 x) ∧
    (∀ x, (rot P n).2.1 x = if x = n then P.2.2 n else if x = P.2.2 (P.2.2 n) ∧ P.2.2 (P.2.2 n) ≠ 0 ∧ P.1 (P.2.2 (P.2.2 n)) ≠ P.2.2 n then n else P.2.1 x) ∧
    (∀ x, (rot P n).2.2 x = if x = n then P.2.2 (P.2.2 n) else if x = P.2.2 n then n else if x = P.2.1 n ∧ P.2.1 n ≠ 0 then P.2.2 n else P.2.2 x) := by
  obtain ⟨l, r, u⟩ := P
  dsimp only at *
  have hZ : u1 l (u n) (r n) (u (u n)) = l (u (u n)) := by unfold u1; rw [if_neg d2]
  have e : rot (l, r, u) n = if u (u n) = 0 then (u1 l (u n) (r n), u1 r n (u n), u1 (u1 (if r n = 0 then u else u1 u (r n) (u n)) (u n) n) n (u (u n))) else if l (u (u n)) = u n then (u1 (u1 l (u n) (r n)) (u (u n)) n, u1 r n (u n), u1 (u1 (if r n = 0 then u else u1 u (r n) (u n)) (u n) n) n (u (u n))) else (u1 l (u n) (r n), u1 (u1 r n (u n)) (u (u n)) n, u1 (u1 (if r n = 0 then u else u1 u (r n) (u n)) (u n) n) n (u (u n))) := by
    unfold rot
    dsimp only
    rw [if_pos h1]
    simp only [str, stl, hu, if_false, hZ]
  rw [e]
  exact turnA l r u n (u n) (u (u n)) (r n) hu d1 d2 d3
theorem rot_B {P : PT} {n : Nat} (h1 : ¬ P.1 (P.2.2 n) = n) (hu : P.2.2 n ≠ 0) (d1 : P.2.2 n ≠ n) (d2 : P.2.2 (P.2.2 n) ≠ P.2.2 n) (d3 : P.2.2 (P.2.2 n) ≠ n) :
    (∀ x, (rot P n).1 x = if x = n then P.2.2 n else if x = P.2.2 (P.2.2 n) ∧ P.2.2 (P.2.2 n) ≠ 0 ∧ P.1 (P.2.2 (P.2.2 n)) = P.2.2 n then n else P.1 x) ∧
    (∀ x, (rot P n).2.1 x = if x = P.2.2 n then P.1 n else if x = P.2.2 (P.2.2 n) ∧ P.2.2 (P.2.2 n) ≠ 0 ∧ P.1 (P.2.2 (P.2.2 n)) ≠ P.2.2 n then n else P.2.1 x) ∧
    (∀ x, (rot P n).2.2 x = if x = n then P.2.2 (P.2.2 n) else if x = P.2.2 n then n else if x = P.1 n ∧ P.1 n ≠ 0 then P.2.2 n else P.2.2 x) := by
  obtain ⟨l, r, u⟩ := P
  dsimp only at *
  have hZ : u1 l n (u n) (u (u n)) = l (u (u n)) := by unfold u1; rw [if_neg d3]
  have e : rot (l, r, u) n = if u (u n) = 0 then (u1 l n (u n), u1 r (u n) (l n), u1 (u1 (if l n = 0 then u else u1 u (l n) (u n)) (u n) n) n (u (u n))) else if l (u (u n)) = u n then (u1 (u1 l n (u n)) (u (u n)) n, u1 r (u n) (l n), u1 (u1 (if l n = 0 then u else u1 u (l n) (u n)) (u n) n) n (u (u n))) else (u1 l n (u n), u1 (u1 r (u n) (l n)) (u (u n)) n, u1 (u1 (if l n = 0 then u else u1 u (l n) (u n)) (u n) n) n (u (u n))) := by
    unfold rot
    dsimp only
    rw [if_neg h1]
    simp only [str, stl, hu, if_false, hZ]
  rw [e]
  exact turnB l r u n (u n) (u (u n)) (l n) hu d1 d2 d3
set_option maxHeartbeats 1000000 in
theorem rot_wf {P : PT} {S z : Nat → Nat} (h : WF P S z) {n : Nat} (hn : S n ≠ 0) (hu : P.2.2 n ≠ 0) : WF (rot P n) S (rz P z n) := by
  obtain ⟨d1, d2, d3, d4, d5, d6, d7⟩ := rot_dist h hn hu
  have h' := h
  obtain ⟨s0, z0, hw⟩ := h
  have n0 : n ≠ 0 := fun q => hn (by rw [q]; exact s0)
  have hwn := hw n hn
  obtain ⟨w1, w2, w3, w4, w5⟩ := hwn
  obtain ⟨w6, w7⟩ := w3 hu
  have hwp := hw (P.2.2 n) (by rw [w7]; exact hn)
  refine ⟨s0, ?_, ?_⟩
  · unfold rz
    rw [if_neg (Ne.symm n0), if_neg (Ne.symm hu)]
    exact z0
  · by_cases h1 : P.1 (P.2.2 n) = n
    · have hc1 : P.2.1 n ≠ n := fun q => by have := d5 (by rw [q]; exact n0); rw [q] at this; omega
      have hc2 : P.2.1 n ≠ P.2.2 n := fun q => by have := d5 (by rw [q]; exact hu); rw [q] at this; omega
      have hc3 : P.2.1 n ≠ 0 → P.2.1 n ≠ P.2.2 (P.2.2 n) := fun q1 q => by
        have := d5 q1
        have h9 := d7 (by rw [← q]; exact q1)
        rw [← q] at h9; omega
      refine turn_r (n := n) (p := P.2.2 n) (g := P.2.2 (P.2.2 n)) (c := P.2.1 n) s0 z0 hw hn rfl hu rfl h1 rfl ?_ ?_ ?_ ?_ d1 d2 d3 hc1 hc2 hc3
      · exact (rot_A h1 hu d1 d2 d3).1
      · exact (rot_A h1 hu d1 d2 d3).2.1
      · exact (rot_A h1 hu d1 d2 d3).2.2
      · intro x
        simp only [rz, h1, if_true]
    · have h2 : P.2.1 (P.2.2 n) = n := by
        rcases w6 with q | q
        · exact absurd q h1
        · exact q
      have hc1 : P.1 n ≠ n := fun q => by have := d4 (by rw [q]; exact n0); rw [q] at this; omega
      have hc2 : P.1 n ≠ P.2.2 n := fun q => by have := d4 (by rw [q]; exact hu); rw [q] at this; omega
      have hc3 : P.1 n ≠ 0 → P.1 n ≠ P.2.2 (P.2.2 n) := fun q1 q => by
        have := d4 q1
        have h9 := d7 (by rw [← q]; exact q1)
        rw [← q] at h9; omega
      have hgg : P.2.2 (P.2.2 n) ≠ 0 → (P.2.1 (P.2.2 (P.2.2 n)) = P.2.2 n ↔ ¬ P.1 (P.2.2 (P.2.2 n)) = P.2.2 n) := by
        intro q
        obtain ⟨q1, q2⟩ := hwp.2.2.1 q
        have hwg := hw (P.2.2 (P.2.2 n)) (by rw [q2, w7]; exact hn)
        constructor
        · intro z1 z2
          have := hwg.2.2.2.1 (by rw [z1, z2])
          rw [z2] at this
          exact hu this
        · intro z1
          rcases q1 with z2 | z2
          · exact absurd z2 z1
          · exact z2
      intro x hx
      refine WN.sw ?_
      refine turn_r (l := P.2.1) (r := P.1) (u := P.2.2) (l' := (rot P n).2.1) (r' := (rot P n).1) (n := n) (p := P.2.2 n) (g := P.2.2 (P.2.2 n)) (c := P.1 n) s0 z0 (fun y hy => (hw y hy).sw) hn rfl hu rfl h2 rfl ?_ ?_ ?_ ?_ d1 d2 d3 hc1 hc2 hc3 x hx
      · intro x
        rw [(rot_B h1 hu d1 d2 d3).2.1 x]
        by_cases xp : x = P.2.2 n
        · rw [if_pos xp, if_pos xp]
        · rw [if_neg xp, if_neg xp]
          by_cases g0 : P.2.2 (P.2.2 n) = 0
          · rw [if_neg (fun q => q.2.1 g0), if_neg (fun q => q.2.1 g0)]
          · simp only [ne_eq, (hgg g0)]
      · intro x
        rw [(rot_B h1 hu d1 d2 d3).1 x]
        by_cases xp : x = n
        · rw [if_pos xp, if_pos xp]
        · rw [if_neg xp, if_neg xp]
          by_cases g0 : P.2.2 (P.2.2 n) = 0
          · rw [if_neg (fun q => q.2.1 g0), if_neg (fun q => q.2.1 g0)]
          · simp only [ne_eq, (hgg g0), Classical.not_not]
      · exact (rot_B h1 hu d1 d2 d3).2.2
      · intro x
        simp only [rz, h1, if_false]
