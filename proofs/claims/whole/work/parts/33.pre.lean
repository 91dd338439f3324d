-- sizes and walks through a picture: the nodes below a node, one after another
def zF : Nat → PT → Nat → Nat
  | 0, _, _ => 0
  | f + 1, P, a => if a = 0 then 0 else 1 + zF f P (P.1 a) + zF f P (P.2.1 a)
def pdF : Nat → PT → Nat → Nat → List (Nat × Nat)
  | 0, _, _, _ => []
  | f + 1, P, a, d => if a = 0 then [] else (a, d) :: (pdF f P (P.1 a) (d + 1) ++ pdF f P (P.2.1 a) (d + 1))
theorem WF.lzl {P : PT} {S z : Nat → Nat} (h : WF P S z) {a : Nat} (ha : S a ≠ 0) : LZ S (P.1 a) := by
  by_cases e : P.1 a = 0
  · exact Or.inl e
  · exact Or.inr (by rw [((h.2.2 a ha).1 e).2]; exact ha)
theorem WF.lzr {P : PT} {S z : Nat → Nat} (h : WF P S z) {a : Nat} (ha : S a ≠ 0) : LZ S (P.2.1 a) := by
  by_cases e : P.2.1 a = 0
  · exact Or.inl e
  · exact Or.inr (by rw [((h.2.2 a ha).2.1 e).2]; exact ha)
theorem WF.lzu {P : PT} {S z : Nat → Nat} (h : WF P S z) {a : Nat} (ha : S a ≠ 0) : LZ S (P.2.2 a) := by
  by_cases e : P.2.2 a = 0
  · exact Or.inl e
  · exact Or.inr (by rw [((h.2.2 a ha).2.2.1 e).2]; exact ha)
theorem WF.n0 {P : PT} {S z : Nat → Nat} (h : WF P S z) {a : Nat} (ha : S a ≠ 0) : a ≠ 0 := fun q => ha (by rw [q]; exact h.1)
theorem WF.zpos {P : PT} {S z : Nat → Nat} (h : WF P S z) {a : Nat} (ha : LZ S a) : z a = 0 ↔ a = 0 := by
  rcases ha with e | e
  · subst e; exact ⟨fun _ => rfl, fun _ => h.2.1⟩
  · have := h.pos e
    have n0 := h.n0 e
    omega
theorem zF_eq {P : PT} {S z : Nat → Nat} (h : WF P S z) : ∀ (f a : Nat), LZ S a → z a ≤ f → zF f P a = z a := by
  intro f
  induction f with
  | zero =>
    intro a ha hz
    show 0 = z a
    omega
  | succ f ih =>
    intro a ha hz
    show (if a = 0 then 0 else _) = _
    rcases ha with e | e
    · subst e; rw [if_pos rfl, h.2.1]
    · rw [if_neg (h.n0 e)]
      have hw := (h.2.2 a e).2.2.2.2
      rw [ih _ (h.lzl e) (by omega), ih _ (h.lzr e) (by omega), ← hw]
theorem pdF_len {P : PT} : ∀ (f a d : Nat), (pdF f P a d).length = zF f P a := by
  intro f
  induction f with
  | zero => intro a d; rfl
  | succ f ih =>
    intro a d
    unfold pdF zF
    by_cases e : a = 0
    · rw [if_pos e, if_pos e]; rfl
    · rw [if_neg e, if_neg e, List.length_cons, List.length_append, ih, ih]; omega
theorem pdF_st {P : PT} {S z : Nat → Nat} (h : WF P S z) : ∀ (f g a d : Nat), LZ S a → z a ≤ f → z a ≤ g → pdF f P a d = pdF g P a d := by
  intro f
  induction f with
  | zero =>
    intro g a d ha hf hg
    have a0 : a = 0 := (h.zpos ha).mp (by omega)
    subst a0
    cases g with
    | zero => rfl
    | succ g => show [] = if 0 = 0 then [] else _; rw [if_pos rfl]
  | succ f ih =>
    intro g a d ha hf hg
    rcases ha with e | e
    · subst e
      cases g with
      | zero => show (if 0 = 0 then [] else _) = []; rw [if_pos rfl]
      | succ g => show (if 0 = 0 then [] else _) = if 0 = 0 then [] else _; rw [if_pos rfl, if_pos rfl]
    · have hp := h.pos e
      cases g with
      | zero => omega
      | succ g =>
        have hw := (h.2.2 a e).2.2.2.2
        show (if a = 0 then [] else (a, d) :: (pdF f P (P.1 a) (d + 1) ++ pdF f P (P.2.1 a) (d + 1))) = (if a = 0 then [] else (a, d) :: (pdF g P (P.1 a) (d + 1) ++ pdF g P (P.2.1 a) (d + 1)))
        rw [ih g _ _ (h.lzl e) (by omega) (by omega), ih g _ _ (h.lzr e) (by omega) (by omega)]
/-- from a node on -/
theorem pdF_eq {P : PT} {S z : Nat → Nat} (h : WF P S z) {f a d : Nat} (ha : S a ≠ 0) (hf : z a ≤ f) : pdF f P a d = (a, d) :: (pdF f P (P.1 a) (d + 1) ++ pdF f P (P.2.1 a) (d + 1)) := by
  have hw := (h.2.2 a ha).2.2.2.2
  rw [pdF_st h f (f + 1) a d (Or.inr ha) hf (by omega)]
  show (if a = 0 then [] else _) = _
  rw [if_neg (h.n0 ha)]
theorem pdF_0 {P : PT} (f d : Nat) : pdF f P 0 d = [] := by
  cases f with
  | zero => rfl
  | succ f => show (if 0 = 0 then [] else _) = _; rw [if_pos rfl]
/-- going up k times -/
def upI (P : PT) : Nat → Nat → Nat
  | 0, x => x
  | k + 1, x => if P.2.2 x = 0 then 0 else upI P k (P.2.2 x)
theorem upI_z {P : PT} {S z : Nat → Nat} (h : WF P S z) : ∀ (k x : Nat), S x ≠ 0 → upI P k x ≠ 0 → z x + k ≤ z (upI P k x) ∧ S (upI P k x) = S x := by
  intro k
  induction k with
  | zero => intro x hx _; exact ⟨Nat.le_refl _, rfl⟩
  | succ k ih =>
    intro x hx hu
    have e : upI P (k + 1) x = if P.2.2 x = 0 then 0 else upI P k (P.2.2 x) := rfl
    by_cases u0 : P.2.2 x = 0
    · rw [e, if_pos u0] at hu; exact absurd rfl hu
    · rw [e, if_neg u0] at hu ⊢
      obtain ⟨a1, a2⟩ := h.up_lt hx u0
      obtain ⟨b1, b2⟩ := ih _ (by rw [a2]; exact hx) hu
      exact ⟨by omega, by rw [b2, a2]⟩
theorem upI_add {P : PT} : ∀ (i j x : Nat), upI P i x ≠ 0 → upI P (i + j) x = upI P j (upI P i x) := by
  intro i
  induction i with
  | zero => intro j x _; rw [Nat.zero_add]; rfl
  | succ i ih =>
    intro j x hx
    have e : upI P (i + 1) x = if P.2.2 x = 0 then 0 else upI P i (P.2.2 x) := rfl
    have e2 : upI P (i + 1 + j) x = if P.2.2 x = 0 then 0 else upI P (i + j) (P.2.2 x) := by
      rw [show i + 1 + j = (i + j) + 1 by omega]; rfl
    by_cases u0 : P.2.2 x = 0
    · rw [e, if_pos u0] at hx; exact absurd rfl hx
    · rw [e, if_neg u0] at hx
      rw [e2, e, if_neg u0, if_neg u0, ih j _ hx]
theorem pd_up {P : PT} {S z : Nat → Nat} (h : WF P S z) : ∀ (f a d : Nat), LZ S a → z a ≤ f → ∀ x, x ∈ (pdF f P a d).map Prod.fst → a ≠ 0 ∧ S x = S a ∧ ∃ k, upI P k x = a := by
  intro f
  induction f with
  | zero => intro a d ha hz x hx; cases hx
  | succ f ih =>
    intro a d ha hz x hx
    rcases ha with e | e
    · subst e; rw [pdF_0] at hx; cases hx
    · have hw := h.2.2 a e
      have hw5 := hw.2.2.2.2
      rw [show pdF (f + 1) P a d = if a = 0 then [] else (a, d) :: (pdF f P (P.1 a) (d + 1) ++ pdF f P (P.2.1 a) (d + 1)) from rfl, if_neg (h.n0 e), List.map_cons, List.map_append, List.mem_cons, List.mem_append] at hx
      refine ⟨h.n0 e, ?_⟩
      rcases hx with q | q | q
      · exact ⟨by rw [q], 0, q⟩
      · obtain ⟨i0, i1, k, i2⟩ := ih _ _ (h.lzl e) (by omega) x q
        obtain ⟨v1, v2⟩ := hw.1 i0
        refine ⟨by rw [i1, v2], k + 1, ?_⟩
        rw [upI_add k 1 x (by rw [i2]; exact i0), i2]
        show (if P.2.2 (P.1 a) = 0 then 0 else P.2.2 (P.1 a)) = a
        rw [v1, if_neg (h.n0 e)]
      · obtain ⟨i0, i1, k, i2⟩ := ih _ _ (h.lzr e) (by omega) x q
        obtain ⟨v1, v2⟩ := hw.2.1 i0
        refine ⟨by rw [i1, v2], k + 1, ?_⟩
        rw [upI_add k 1 x (by rw [i2]; exact i0), i2]
        show (if P.2.2 (P.2.1 a) = 0 then 0 else P.2.2 (P.2.1 a)) = a
        rw [v1, if_neg (h.n0 e)]
/-- two nodes over one node: the one is over the other -/
theorem upI_two {P : PT} {S z : Nat → Nat} (h : WF P S z) {x i j a b : Nat} (hi : upI P i x = a) (hj : upI P j x = b) (a0 : a ≠ 0) (b0 : b ≠ 0) : (∃ k, upI P k a = b) ∨ ∃ k, upI P k b = a := by
  rcases Nat.le_total i j with q | q
  · refine Or.inl ⟨j - i, ?_⟩
    have := upI_add (P := P) i (j - i) x (by rw [hi]; exact a0)
    rw [hi, show i + (j - i) = j by omega, hj] at this
    exact this.symm
  · refine Or.inr ⟨i - j, ?_⟩
    have := upI_add (P := P) j (i - j) x (by rw [hj]; exact b0)
    rw [hj, show j + (i - j) = i by omega, hi] at this
    exact this.symm
/-- no way up leads from one child to the other -/
theorem upI_lr {P : PT} {S z : Nat → Nat} (h : WF P S z) {a l r : Nat} (ha : S a ≠ 0) (hl : P.2.2 l = a) (hz : z r < z a) (hn : l ≠ r) (r0 : r ≠ 0) : ∀ k, upI P k l ≠ r := by
  intro k hk
  cases k with
  | zero => exact hn hk
  | succ k =>
    have e : upI P (k + 1) l = if P.2.2 l = 0 then 0 else upI P k (P.2.2 l) := rfl
    rw [hl, if_neg (h.n0 ha)] at e
    rw [e] at hk
    have := (upI_z h k a ha (by rw [hk]; exact r0)).1
    rw [hk] at this
    omega
theorem pd_nodup {P : PT} {S z : Nat → Nat} (h : WF P S z) : ∀ (f a d : Nat), LZ S a → z a ≤ f → ((pdF f P a d).map Prod.fst).Nodup := by
  intro f
  induction f with
  | zero => intro a d ha hz; exact List.nodup_nil
  | succ f ih =>
    intro a d ha hz
    rcases ha with e | e
    · subst e; rw [pdF_0]; exact List.nodup_nil
    · have hw := h.2.2 a e
      obtain ⟨w1, w2, w3, w4, w5⟩ := hw
      rw [show pdF (f + 1) P a d = if a = 0 then [] else (a, d) :: (pdF f P (P.1 a) (d + 1) ++ pdF f P (P.2.1 a) (d + 1)) from rfl, if_neg (h.n0 e), List.map_cons, List.map_append, List.nodup_cons, List.nodup_append]
      have low : ∀ c dd x, LZ S c → z c < z a → x ∈ (pdF f P c dd).map Prod.fst → z x < z a := by
        intro c dd x hc hlt hx
        obtain ⟨i0, i1, k, i2⟩ := pd_up h f c dd hc (by omega) x hx
        have hSc : S c ≠ 0 := by rcases hc with q | q; exact absurd q i0; exact q
        have := (upI_z h k x (by rw [i1]; exact hSc) (by rw [i2]; exact i0)).1
        rw [i2] at this
        omega
      refine ⟨?_, ih _ _ (h.lzl e) (by omega), ih _ _ (h.lzr e) (by omega), ?_⟩
      · rw [List.mem_append]
        rintro (q | q)
        · exact absurd (low _ _ _ (h.lzl e) (by omega) q) (Nat.lt_irrefl _)
        · exact absurd (low _ _ _ (h.lzr e) (by omega) q) (Nat.lt_irrefl _)
      · intro x hx y hy hxy
        subst hxy
        obtain ⟨i0, i1, i, i2⟩ := pd_up h f _ _ (h.lzl e) (by omega) x hx
        obtain ⟨j0, j1, j, j2⟩ := pd_up h f _ _ (h.lzr e) (by omega) x hy
        have hne : P.1 a ≠ P.2.1 a := fun q => i0 (w4 q)
        rcases upI_two h i2 j2 i0 j0 with ⟨k, hk⟩ | ⟨k, hk⟩
        · exact upI_lr h e (w1 i0).1 (by omega) hne j0 k hk
        · exact upI_lr h e (w2 j0).1 (by omega) (Ne.symm hne) i0 k hk
