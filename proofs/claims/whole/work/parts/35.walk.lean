-- the class's walk, over pictures
def clF : Nat → PT → Nat → Int → Nat × Int
  | 0, _, _, d => (0, d)
  | f + 1, P, x, d => if P.2.2 x = 0 then (0, d) else if P.2.1 (P.2.2 x) = 0 ∨ P.2.1 (P.2.2 x) = x then clF f P (P.2.2 x) (d - 1) else (P.2.1 (P.2.2 x), d)
def adv (P : PT) (w : Nat × Int) : Nat × Int :=
  if P.1 w.1 ≠ 0 then (P.1 w.1, w.2 + 1) else if P.2.1 w.1 ≠ 0 then (P.2.1 w.1, w.2 + 1) else clF 20003 P w.1 w.2
def itA (P : PT) : Nat → Nat × Int → Nat × Int
  | 0, w => w
  | k + 1, w => itA P k (adv P w)
theorem itA_add (P : PT) : ∀ (i j : Nat) (w : Nat × Int), itA P (i + j) w = itA P j (itA P i w) := by
  intro i
  induction i with
  | zero => intro j w; rw [Nat.zero_add]; rfl
  | succ i ih => intro j w; rw [show i + 1 + j = (i + j) + 1 by omega]; exact ih j (adv P w)
theorem itA_S (P : PT) (k : Nat) (w : Nat × Int) : itA P (k + 1) w = adv P (itA P k w) := itA_add P k 1 w
theorem clF_st {P : PT} {S z : Nat → Nat} (h : WF P S z) {B : Nat} (hB : ∀ x, S x ≠ 0 → z x ≤ B) : ∀ (f g x : Nat) (d : Int), S x ≠ 0 → B < z x + f → B < z x + g → clF f P x d = clF g P x d := by
  intro f
  induction f with
  | zero => intro g x d hx hf hg; have := hB x hx; omega
  | succ f ih =>
    intro g x d hx hf hg
    cases g with
    | zero => have := hB x hx; omega
    | succ g =>
      show (if P.2.2 x = 0 then _ else if _ then clF f P (P.2.2 x) (d - 1) else _) = (if P.2.2 x = 0 then _ else if _ then clF g P (P.2.2 x) (d - 1) else _)
      by_cases u0 : P.2.2 x = 0
      · rw [if_pos u0, if_pos u0]
      · obtain ⟨a1, a2⟩ := h.up_lt hx u0
        rw [if_neg u0, if_neg u0, ih g (P.2.2 x) (d - 1) (by rw [a2]; exact hx) (by omega) (by omega)]
theorem clF_le {P : PT} : ∀ (f x : Nat) (d : Int), (clF f P x d).2 ≤ d := by
  intro f
  induction f with
  | zero => intro x d; exact Int.le_refl _
  | succ f ih =>
    intro x d
    show (if P.2.2 x = 0 then (0, d) else if P.2.1 (P.2.2 x) = 0 ∨ P.2.1 (P.2.2 x) = x then clF f P (P.2.2 x) (d - 1) else (P.2.1 (P.2.2 x), d)).2 ≤ d
    split
    · exact Int.le_refl _
    · split
      · have := ih (P.2.2 x) (d - 1); omega
      · exact Int.le_refl _
/-- from a child that has been gone through -/
theorem cl_ch {P : PT} {S z : Nat → Nat} (h : WF P S z) (hB : ∀ x, S x ≠ 0 → z x ≤ 20002) {a c : Nat} {d : Int} (ha : S a ≠ 0) (hc : S c ≠ 0) (hu : P.2.2 c = a) : clF 20003 P c (d + 1) = if P.2.1 a = 0 ∨ P.2.1 a = c then clF 20003 P a d else (P.2.1 a, d + 1) := by
  have hz := h.up_lt hc (by rw [hu]; exact h.n0 ha)
  rw [hu] at hz
  have hp := h.pos hc
  have e1 : clF 20003 P c (d + 1) = if P.2.2 c = 0 then (0, d + 1) else if P.2.1 (P.2.2 c) = 0 ∨ P.2.1 (P.2.2 c) = c then clF 20002 P (P.2.2 c) (d + 1 - 1) else (P.2.1 (P.2.2 c), d + 1) := rfl
  rw [e1, hu, if_neg (h.n0 ha), show d + 1 - 1 = d by omega, clF_st h hB 20002 20003 a d ha (by omega) (by omega)]
def cst (p : Nat × Nat) : Nat × Int := (p.1, (p.2 : Int))
theorem wk {P : PT} {S z : Nat → Nat} (h : WF P S z) (hB : ∀ x, S x ≠ 0 → z x ≤ 20002) : ∀ (f a e : Nat), S a ≠ 0 → z a ≤ f →
    (∀ k, k < z a → itA P k (a, (e : Int)) = cst ((pdF f P a e).getD k (0, 0))) ∧ itA P (z a) (a, (e : Int)) = clF 20003 P a e := by
  intro f
  induction f with
  | zero => intro a e ha hz; have := h.pos ha; omega
  | succ f ih =>
    intro a e ha hz
    obtain ⟨w1, w2, w3, w4, w5⟩ := h.2.2 a ha
    have hl : pdF (f + 1) P a e = (a, e) :: (pdF f P (P.1 a) (e + 1) ++ pdF f P (P.2.1 a) (e + 1)) := by
      show (if a = 0 then [] else _) = _
      rw [if_neg (h.n0 ha)]
    have hlen : (pdF f P (P.1 a) (e + 1)).length = z (P.1 a) := by rw [pdF_len, zF_eq h f _ (h.lzl ha) (by omega)]
    have hce : ((e + 1 : Nat) : Int) = (e : Int) + 1 := by omega
    -- the right part, from its first node on
    have hR : P.2.1 a ≠ 0 → (∀ j, j < z (P.2.1 a) → itA P j (P.2.1 a, (e : Int) + 1) = cst ((pdF f P (P.2.1 a) (e + 1)).getD j (0, 0))) ∧ itA P (z (P.2.1 a)) (P.2.1 a, (e : Int) + 1) = clF 20003 P a e := by
      intro r0
      have hr : S (P.2.1 a) ≠ 0 := by rw [(w2 r0).2]; exact ha
      obtain ⟨i1, i2⟩ := ih (P.2.1 a) (e + 1) hr (by omega)
      rw [hce] at i1 i2
      refine ⟨i1, ?_⟩
      rw [i2, cl_ch h hB ha hr (w2 r0).1, if_pos (Or.inr rfl)]
    rw [hl]
    by_cases l0 : P.1 a = 0
    · have e1 : adv P (a, (e : Int)) = if P.2.1 a ≠ 0 then (P.2.1 a, (e : Int) + 1) else clF 20003 P a e := by
        show (if P.1 a ≠ 0 then _ else _) = _
        rw [if_neg (fun q => q l0)]
      rw [l0, h.2.1] at w5
      rw [l0, pdF_0, List.nil_append]
      by_cases r0 : P.2.1 a = 0
      · rw [r0, h.2.1] at w5
        rw [if_neg (fun q => q r0)] at e1
        rw [w5]
        refine ⟨fun k hk => ?_, ?_⟩
        · have : k = 0 := by omega
          subst this
          rfl
        · show itA P 0 (adv P (a, (e : Int))) = _
          rw [e1]
          rfl
      · rw [if_pos r0] at e1
        obtain ⟨i1, i2⟩ := hR r0
        refine ⟨fun k hk => ?_, ?_⟩
        · cases k with
          | zero => rfl
          | succ k =>
            show itA P k (adv P (a, (e : Int))) = _
            rw [e1, i1 k (by omega), List.getD_cons_succ]
        · rw [show z a = z (P.2.1 a) + 1 by omega]
          show itA P _ (adv P (a, (e : Int))) = _
          rw [e1, i2]
    · have hSl : S (P.1 a) ≠ 0 := by rw [(w1 l0).2]; exact ha
      have e1 : adv P (a, (e : Int)) = (P.1 a, (e : Int) + 1) := by
        show (if P.1 a ≠ 0 then _ else _) = _
        rw [if_pos l0]
      obtain ⟨j1, j2⟩ := ih (P.1 a) (e + 1) hSl (by omega)
      rw [hce] at j1 j2
      rw [cl_ch h hB ha hSl (w1 l0).1] at j2
      by_cases r0 : P.2.1 a = 0
      · rw [if_pos (Or.inl r0)] at j2
        rw [r0, h.2.1] at w5
        rw [r0, pdF_0, List.append_nil]
        refine ⟨fun k hk => ?_, ?_⟩
        · cases k with
          | zero => rfl
          | succ k =>
            show itA P k (adv P (a, (e : Int))) = _
            rw [e1, j1 k (by omega), List.getD_cons_succ]
        · rw [show z a = z (P.1 a) + 1 by omega]
          show itA P _ (adv P (a, (e : Int))) = _
          rw [e1, j2]
      · rw [if_neg (fun q => by rcases q with q | q; exact r0 q; exact r0 (by rw [q]; exact w4 q.symm))] at j2
        obtain ⟨i1, i2⟩ := hR r0
        refine ⟨fun k hk => ?_, ?_⟩
        · cases k with
          | zero => rfl
          | succ k =>
            show itA P k (adv P (a, (e : Int))) = _
            rw [e1, List.getD_cons_succ]
            by_cases q : k < z (P.1 a)
            · rw [j1 k q, List.getD_eq_getElem?_getD, List.getD_eq_getElem?_getD, List.getElem?_append_left (by rw [hlen]; exact q)]
            · have ek : k = z (P.1 a) + (k - z (P.1 a)) := by omega
              have e2 : itA P k (P.1 a, (e : Int) + 1) = itA P (k - z (P.1 a)) (itA P (z (P.1 a)) (P.1 a, (e : Int) + 1)) := by rw [← itA_add, ← ek]
              rw [e2, j2, i1 _ (by omega), List.getD_eq_getElem?_getD, List.getD_eq_getElem?_getD, List.getElem?_append_right (by rw [hlen]; omega), hlen]
        · rw [show z a = (z (P.1 a) + z (P.2.1 a)) + 1 by omega]
          show itA P _ (adv P (a, (e : Int))) = _
          rw [e1, itA_add, j2, i2]
theorem pd_dep {P : PT} : ∀ (f a e : Nat) (p : Nat × Nat), p ∈ pdF f P a e → p = (a, e) ∨ e < p.2 := by
  intro f
  induction f with
  | zero => intro a e p hp; cases hp
  | succ f ih =>
    intro a e p hp
    by_cases a0 : a = 0
    · subst a0; rw [pdF_0] at hp; cases hp
    · rw [show pdF (f + 1) P a e = if a = 0 then [] else (a, e) :: (pdF f P (P.1 a) (e + 1) ++ pdF f P (P.2.1 a) (e + 1)) from rfl, if_neg a0, List.mem_cons, List.mem_append] at hp
      rcases hp with q | q | q
      · exact Or.inl q
      · rcases ih _ _ p q with w | w
        · exact Or.inr (by rw [w]; exact Nat.lt_succ_self _)
        · exact Or.inr (by omega)
      · rcases ih _ _ p q with w | w
        · exact Or.inr (by rw [w]; exact Nat.lt_succ_self _)
        · exact Or.inr (by omega)
