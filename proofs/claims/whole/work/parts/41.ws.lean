-- well-formed pictures, by structure and a measure
def WS (P : PT) (S : Nat → Nat) : Prop := S 0 = 0 ∧ ∀ n, S n ≠ 0 → (P.1 n ≠ 0 → P.2.2 (P.1 n) = n ∧ S (P.1 n) = S n) ∧ (P.2.1 n ≠ 0 → P.2.2 (P.2.1 n) = n ∧ S (P.2.1 n) = S n) ∧ (P.2.2 n ≠ 0 → (P.1 (P.2.2 n) = n ∨ P.2.1 (P.2.2 n) = n) ∧ S (P.2.2 n) = S n) ∧ (P.1 n = P.2.1 n → P.1 n = 0)
def MU (P : PT) (S μ : Nat → Nat) : Prop := ∀ n, S n ≠ 0 → (P.1 n ≠ 0 → μ (P.1 n) < μ n) ∧ (P.2.1 n ≠ 0 → μ (P.2.1 n) < μ n)
theorem WF.ws {P : PT} {S z : Nat → Nat} (h : WF P S z) : WS P S := ⟨h.1, fun n hn => by obtain ⟨w1, w2, w3, w4, w5⟩ := h.2.2 n hn; exact ⟨w1, w2, w3, w4⟩⟩
theorem WF.mu {P : PT} {S z : Nat → Nat} (h : WF P S z) : MU P S z := fun n hn => by
  obtain ⟨w1, w2, w3, w4, w5⟩ := h.2.2 n hn
  exact ⟨fun _ => by omega, fun _ => by omega⟩
theorem zF_stb {P : PT} {S μ : Nat → Nat} (hs : WS P S) (hm : MU P S μ) : ∀ (f g a : Nat), LZ S a → (a ≠ 0 → μ a < f) → (a ≠ 0 → μ a < g) → zF f P a = zF g P a := by
  intro f
  induction f with
  | zero =>
    intro g a ha hf hg
    by_cases a0 : a = 0
    · subst a0
      cases g with
      | zero => rfl
      | succ g => show 0 = if (0 : Nat) = 0 then 0 else _; rw [if_pos rfl]
    · have := hf a0; omega
  | succ f ih =>
    intro g a ha hf hg
    by_cases a0 : a = 0
    · subst a0
      cases g with
      | zero => show (if (0 : Nat) = 0 then 0 else _) = 0; rw [if_pos rfl]
      | succ g => show (if (0 : Nat) = 0 then 0 else _) = if (0 : Nat) = 0 then 0 else _; rw [if_pos rfl, if_pos rfl]
    · have haS : S a ≠ 0 := by rcases ha with e | e; exact absurd e a0; exact e
      have hf := hf a0
      have hg := hg a0
      cases g with
      | zero => omega
      | succ g =>
        show (if a = 0 then 0 else 1 + zF f P (P.1 a) + zF f P (P.2.1 a)) = if a = 0 then 0 else 1 + zF g P (P.1 a) + zF g P (P.2.1 a)
        rw [if_neg a0, if_neg a0]
        obtain ⟨w1, w2, -⟩ := hs.2 a haS
        obtain ⟨m1, m2⟩ := hm a haS
        have l1 : LZ S (P.1 a) := by
          by_cases e : P.1 a = 0
          · exact Or.inl e
          · exact Or.inr (by rw [(w1 e).2]; exact haS)
        have l2 : LZ S (P.2.1 a) := by
          by_cases e : P.2.1 a = 0
          · exact Or.inl e
          · exact Or.inr (by rw [(w2 e).2]; exact haS)
        rw [ih g (P.1 a) l1 (fun e => by have := m1 e; omega) (fun e => by have := m1 e; omega), ih g (P.2.1 a) l2 (fun e => by have := m2 e; omega) (fun e => by have := m2 e; omega)]
theorem WF.of {P : PT} {S μ : Nat → Nat} {B : Nat} (hs : WS P S) (hT : TN S) (hm : MU P S μ) (hB : ∀ n, S n ≠ 0 → μ n ≤ B) : WF P S (_root_.Jvm.Pilot.CStepPurseLaw_law_r8377_2c7bf5.zf P) := by
  have h : WF P S (zF (B + 1) P) := by
    refine ⟨hs.1, ?_, fun n hn => ?_⟩
    · show (if (0 : Nat) = 0 then 0 else _) = 0
      rw [if_pos rfl]
    · obtain ⟨w1, w2, w3, w4⟩ := hs.2 n hn
      obtain ⟨m1, m2⟩ := hm n hn
      have n0 : n ≠ 0 := fun e => hn (by rw [e]; exact hs.1)
      have hb := hB n hn
      refine ⟨w1, w2, w3, w4, ?_⟩
      have l1 : LZ S (P.1 n) := by
        by_cases e : P.1 n = 0
        · exact Or.inl e
        · exact Or.inr (by rw [(w1 e).2]; exact hn)
      have l2 : LZ S (P.2.1 n) := by
        by_cases e : P.2.1 n = 0
        · exact Or.inl e
        · exact Or.inr (by rw [(w2 e).2]; exact hn)
      rw [zF_stb hs hm (B + 1) B (P.1 n) l1 (fun e => by have := m1 e; omega) (fun e => by have := m1 e; omega), zF_stb hs hm (B + 1) B (P.2.1 n) l2 (fun e => by have := m2 e; omega) (fun e => by have := m2 e; omega)]
      show (if n = 0 then 0 else _) = _
      rw [if_neg n0]
  exact h.zf hT.2
theorem WS.n0 {P : PT} {S : Nat → Nat} (h : WS P S) {x : Nat} (hx : S x ≠ 0) : x ≠ 0 := fun e => hx (by rw [e]; exact h.1)
theorem WS.nb {P : PT} {S : Nat → Nat} (h : WS P S) {x c : Nat} (hx : S x ≠ 0) (hc : S c = 0) (c0 : c ≠ 0) : P.1 x ≠ c ∧ P.2.1 x ≠ c ∧ P.2.2 x ≠ c := by
  obtain ⟨w1, w2, w3, w4⟩ := h.2 x hx
  refine ⟨fun e => ?_, fun e => ?_, fun e => ?_⟩
  · have := (w1 (by rw [e]; exact c0)).2; rw [e, hc] at this; exact hx this.symm
  · have := (w2 (by rw [e]; exact c0)).2; rw [e, hc] at this; exact hx this.symm
  · have := (w3 (by rw [e]; exact c0)).2; rw [e, hc] at this; exact hx this.symm
-- a new leaf
theorem WS.hl {l r u S : Nat → Nat} {n c : Nat} (h : WS (l, r, u) S) (hn : S n ≠ 0) (hc : S c = 0) (c0 : c ≠ 0) (hl : l n = 0) : WS (u1 (u1 l c 0) n c, u1 r c 0, u1 u c n) (u1 S c (S n)) := by
  have nc : n ≠ c := fun e => hn (by rw [e]; exact hc)
  have n0 := h.n0 hn
  refine ⟨by rw [u1_o _ _ (Ne.symm c0)]; exact h.1, fun x hx => ?_⟩
  dsimp only at *
  by_cases xc : x = c
  · subst xc
    clear h
    unfold u1 at *
    grind
  · rw [u1_o _ _ xc] at hx
    have x0 := h.n0 hx
    have b1 := h.2 x hx
    have b2 := h.nb hx hc c0
    have b3 := h.2 n hn
    have b4 := h.nb hn hc c0
    dsimp only at *
    clear h
    unfold u1
    grind
theorem WS.hr {l r u S : Nat → Nat} {n c : Nat} (h : WS (l, r, u) S) (hn : S n ≠ 0) (hc : S c = 0) (c0 : c ≠ 0) (hl : r n = 0) : WS (u1 l c 0, u1 (u1 r c 0) n c, u1 u c n) (u1 S c (S n)) := by
  have nc : n ≠ c := fun e => hn (by rw [e]; exact hc)
  have n0 := h.n0 hn
  refine ⟨by rw [u1_o _ _ (Ne.symm c0)]; exact h.1, fun x hx => ?_⟩
  dsimp only at *
  by_cases xc : x = c
  · subst xc
    clear h
    unfold u1 at *
    grind
  · rw [u1_o _ _ xc] at hx
    have x0 := h.n0 hx
    have b1 := h.2 x hx
    have b2 := h.nb hx hc c0
    have b3 := h.2 n hn
    have b4 := h.nb hn hc c0
    dsimp only at *
    clear h
    unfold u1
    grind
theorem WS.ho {l r u S : Nat → Nat} {c t : Nat} (h : WS (l, r, u) S) (hc : S c = 0) (c0 : c ≠ 0) : WS (u1 l c 0, u1 r c 0, u1 u c 0) (u1 S c t) := by
  refine ⟨by rw [u1_o _ _ (Ne.symm c0)]; exact h.1, fun x hx => ?_⟩
  dsimp only at *
  by_cases xc : x = c
  · subst xc
    clear h
    unfold u1 at *
    grind
  · rw [u1_o _ _ xc] at hx
    have x0 := h.n0 hx
    have b1 := h.2 x hx
    have b2 := h.nb hx hc c0
    dsimp only at *
    clear h
    unfold u1
    grind
-- a child is cut off
theorem WS.cr {l r u S : Nat → Nat} {n : Nat} (h : WS (l, r, u) S) (hn : S n ≠ 0) (hc : r n ≠ 0) : WS (l, u1 r n 0, u1 u (r n) 0) S := by
  refine ⟨h.1, fun x hx => ?_⟩
  have n0 := h.n0 hn
  have x0 := h.n0 hx
  have b1 := h.2 x hx
  have b3 := h.2 n hn
  have b4 := h.2 (r n) (by rw [(b3.2.1 hc).2]; exact hn)
  dsimp only at *
  clear h
  unfold u1
  refine ⟨fun e => ?_, fun e => ?_, fun e => ?_, fun e => ?_⟩ <;> grind (splits := 20)
theorem WS.cl {l r u S : Nat → Nat} {n : Nat} (h : WS (l, r, u) S) (hn : S n ≠ 0) (hc : l n ≠ 0) : WS (u1 l n 0, r, u1 u (l n) 0) S := by
  refine ⟨h.1, fun x hx => ?_⟩
  have n0 := h.n0 hn
  have x0 := h.n0 hx
  have b1 := h.2 x hx
  have b3 := h.2 n hn
  have b4 := h.2 (l n) (by rw [(b3.1 hc).2]; exact hn)
  dsimp only at *
  clear h
  unfold u1
  refine ⟨fun e => ?_, fun e => ?_, fun e => ?_, fun e => ?_⟩ <;> grind (splits := 20)
-- a root goes
theorem WS.dr {l r u S : Nat → Nat} {n : Nat} (h : WS (l, r, u) S) (hn : S n ≠ 0) (hu : u n = 0) : WS (l, r, u1 (u1 u (l n) 0) (r n) 0) (u1 S n 0) := by
  have n0 := h.n0 hn
  refine ⟨by rw [u1_o _ _ (Ne.symm n0)]; exact h.1, fun x hx => ?_⟩
  by_cases xn : x = n
  · rw [xn, u1_s] at hx; exact absurd rfl hx
  · rw [u1_o _ _ xn] at hx
    have x0 := h.n0 hx
    have b1 := h.2 x hx
    have b3 := h.2 n hn
    dsimp only at *
    clear h
    unfold u1
    refine ⟨fun e => ?_, fun e => ?_, fun e => ?_, fun e => ?_⟩ <;> grind (splits := 20)
-- a tree is hung to the right of a root
theorem WS.lk {l r u S : Nat → Nat} {n c : Nat} (h : WS (l, r, u) S) (hn : S n ≠ 0) (hr : r n = 0) (hc : S c ≠ 0) (hu : u c = 0) (hd : S c ≠ S n) : WS (l, u1 r n c, u1 u c n) (fun x => if S x = S c then S n else S x) := by
  have n0 := h.n0 hn
  have c0 := h.n0 hc
  refine ⟨by show (if S 0 = S c then S n else S 0) = 0; rw [h.1, if_neg (Ne.symm hc)], fun x hx => ?_⟩
  have hx' : S x ≠ 0 := by
    intro e
    apply hx
    show (if S x = S c then S n else S x) = 0
    rw [e, if_neg (Ne.symm hc)]
  have x0 := h.n0 hx'
  have b1 := h.2 x hx'
  have b3 := h.2 n hn
  have b4 := h.2 c hc
  dsimp only at *
  clear h
  unfold u1
  refine ⟨fun e => ?_, fun e => ?_, fun e => ?_, fun e => ?_⟩ <;> grind (splits := 20)
-- a node with one child or none goes, the child comes into its place
def tkP (P : PT) (n c : Nat) : PT :=
  let p := P.2.2 n
  let u := if c = 0 then P.2.2 else u1 P.2.2 c p
  if p = 0 then (P.1, P.2.1, u) else if P.1 p = n then (u1 P.1 p c, P.2.1, u) else (P.1, u1 P.2.1 p c, u)
theorem WS.tk {l r u S : Nat → Nat} {n c : Nat} (h : WS (l, r, u) S) (hn : S n ≠ 0) (hc : (l n = 0 ∧ r n = c) ∨ (r n = 0 ∧ l n = c)) : WS (tkP (l, r, u) n c) (u1 S n 0) := by
  have n0 := h.n0 hn
  refine ⟨by rw [u1_o _ _ (Ne.symm n0)]; exact h.1, fun x hx => ?_⟩
  by_cases xn : x = n
  · rw [xn, u1_s] at hx; exact absurd rfl hx
  · rw [u1_o _ _ xn] at hx
    have x0 := h.n0 hx
    have b1 := h.2 x hx
    have b3 := h.2 n hn
    dsimp only at b3
    have b4 : u n ≠ 0 → S (u n) ≠ 0 := fun e => by rw [(b3.2.2.1 e).2]; exact hn
    have b5 : u n ≠ 0 → _ := fun e => h.2 (u n) (b4 e)
    have b6 : c ≠ 0 → S c ≠ 0 := fun e => by
      rcases hc with q | q
      · rw [← q.2, (b3.2.1 (by rw [q.2]; exact e)).2]; exact hn
      · rw [← q.2, (b3.1 (by rw [q.2]; exact e)).2]; exact hn
    have b7 : c ≠ 0 → _ := fun e => h.2 c (b6 e)
    dsimp only at *
    clear h
    unfold tkP u1
    by_cases p0 : u n = 0
    · by_cases c0 : c = 0
      · simp only [p0, c0, if_true]
        refine ⟨fun e => ?_, fun e => ?_, fun e => ?_, fun e => ?_⟩ <;> grind (splits := 20)
      · simp only [p0, c0, if_true, if_false]
        refine ⟨fun e => ?_, fun e => ?_, fun e => ?_, fun e => ?_⟩ <;> grind (splits := 20)
    · by_cases c0 : c = 0
      · by_cases lp : l (u n) = n
        · simp only [p0, c0, lp, if_true, if_false]
          refine ⟨fun e => ?_, fun e => ?_, fun e => ?_, fun e => ?_⟩ <;> grind (splits := 20)
        · simp only [p0, c0, lp, if_true, if_false]
          refine ⟨fun e => ?_, fun e => ?_, fun e => ?_, fun e => ?_⟩ <;> grind (splits := 20)
      · by_cases lp : l (u n) = n
        · simp only [p0, c0, lp, if_true, if_false]
          refine ⟨fun e => ?_, fun e => ?_, fun e => ?_, fun e => ?_⟩ <;> grind (splits := 20)
        · simp only [p0, c0, lp, if_true, if_false]
          refine ⟨fun e => ?_, fun e => ?_, fun e => ?_, fun e => ?_⟩ <;> grind (splits := 20)
-- other labels
theorem WS.rel {P : PT} {S : Nat → Nat} {Q : Nat → Bool} {c : Nat} (h : WS P S) (hQ : ∀ n, S n ≠ 0 → (P.1 n ≠ 0 → Q (P.1 n) = Q n) ∧ (P.2.1 n ≠ 0 → Q (P.2.1 n) = Q n)) : WS P (fun x => if S x ≠ 0 ∧ Q x = true then c else S x) := by
  refine ⟨by show (if S 0 ≠ 0 ∧ Q 0 = true then c else S 0) = 0; rw [if_neg (fun q => q.1 h.1)]; exact h.1, fun x hx => ?_⟩
  have hx' : S x ≠ 0 := by
    intro e
    apply hx
    show (if S x ≠ 0 ∧ Q x = true then c else S x) = 0
    rw [if_neg (fun q => q.1 e)]; exact e
  have x0 := h.n0 hx'
  have b1 := h.2 x hx'
  have b2 := hQ x hx'
  have b3 : P.2.2 x ≠ 0 → _ := fun e => hQ (P.2.2 x) (by rw [(b1.2.2.1 e).2]; exact hx')
  dsimp only at *
  clear h hQ
  refine ⟨fun e => ?_, fun e => ?_, fun e => ?_, fun e => ?_⟩ <;> grind (splits := 20)
theorem pd_of_up {P : PT} {S z : Nat → Nat} (h : WF P S z) {r f d : Nat} (hr : S r ≠ 0) (hf : z r ≤ f) : ∀ (k x : Nat), S x ≠ 0 → upI P k x = r → x ∈ (pdF f P r d).map Prod.fst := by
  intro k
  induction k with
  | zero => intro x _ e; rw [show x = r from e]; exact pd_hd h hr hf
  | succ k ih =>
    intro x hx e
    have r0 := h.n0 hr
    have e' : (if P.2.2 x = 0 then 0 else upI P k (P.2.2 x)) = r := e
    by_cases u0 : P.2.2 x = 0
    · rw [if_pos u0] at e'; exact absurd e'.symm r0
    · rw [if_neg u0] at e'
      obtain ⟨w1, w2⟩ := (h.2.2 x hx).2.2.1 u0
      have hin := ih (P.2.2 x) (by rw [w2]; exact hx) e'
      obtain ⟨c1, c2⟩ := pd_ch h f r d (Or.inr hr) hf _ hin
      rcases w1 with q | q
      · have := c1 (by rw [q]; exact h.n0 hx); rw [q] at this; exact this
      · have := c2 (by rw [q]; exact h.n0 hx); rw [q] at this; exact this
def sub (P : PT) (r x : Nat) : Bool := decide (x ∈ (pdF 20003 P r 0).map Prod.fst)
theorem sub_cl {P : PT} {S z : Nat → Nat} (h : WF P S z) (hT : TN S) {r : Nat} (hr : S r ≠ 0) (hu : P.2.2 r = 0) : ∀ n, S n ≠ 0 → (P.1 n ≠ 0 → sub P r (P.1 n) = sub P r n) ∧ (P.2.1 n ≠ 0 → sub P r (P.2.1 n) = sub P r n) := by
  intro n hn
  have hz := h.z_le hT.2 (Or.inr hr)
  have key : ∀ c, S c ≠ 0 → P.2.2 c = n → (n ∈ (pdF 20003 P r 0).map Prod.fst → c ∈ (pdF 20003 P r 0).map Prod.fst) → sub P r c = sub P r n := by
    intro c hc huc hd
    unfold sub
    rw [decide_eq_decide]
    refine ⟨fun q => ?_, hd⟩
    obtain ⟨i0, i1, k, hk⟩ := pd_up h 20003 r 0 (Or.inr hr) (by omega) c q
    cases k with
    | zero =>
      have : c = r := hk
      rw [this, hu] at huc
      exact absurd huc.symm (h.n0 hn)
    | succ k =>
      have e' : (if P.2.2 c = 0 then 0 else upI P k (P.2.2 c)) = r := hk
      rw [huc, if_neg (h.n0 hn)] at e'
      exact pd_of_up h hr (by omega) k n hn e'
  obtain ⟨w1, w2, -⟩ := h.2.2 n hn
  refine ⟨fun e => ?_, fun e => ?_⟩
  · exact key _ (by rw [(w1 e).2]; exact hn) (w1 e).1 (fun q => (pd_ch h 20003 r 0 (Or.inr hr) (by omega) n q).1 e)
  · exact key _ (by rw [(w2 e).2]; exact hn) (w2 e).1 (fun q => (pd_ch h 20003 r 0 (Or.inr hr) (by omega) n q).2 e)
