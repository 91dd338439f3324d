-- melding, as pictures
def mwP (fs : Nat → Nat → Bool) (P : PT) : Nat → Nat → Nat → List (Nat × Nat) × Nat
  | 0, a, b => ([], if a = 0 then b else a)
  | f + 1, a, b => if a = 0 ∨ b = 0 then ([], if a = 0 then b else a) else
    ((if fs a b then a else b, if fs a b then b else a) :: (mwP fs P f (P.2.1 (if fs a b then a else b)) (if fs a b then b else a)).1, (mwP fs P f (P.2.1 (if fs a b then a else b)) (if fs a b then b else a)).2)
theorem mwP_F (fs : Nat → Nat → Bool) (P : PT) : ∀ (f a b : Nat), mwF fs P f a b = ((mwP fs P f a b).1.map Prod.fst, (mwP fs P f a b).2) := by
  intro f
  induction f with
  | zero => intro a b; rfl
  | succ f ih =>
    intro a b
    unfold mwF mwP
    by_cases e : a = 0 ∨ b = 0
    · rw [if_pos e, if_pos e]; rfl
    · rw [if_neg e, if_neg e, ih]; rfl
def hd (l : List (Nat × Nat)) (q : Nat) : Nat := match l with | [] => q | p :: _ => p.1
def cutR (P : PT) (w : Nat) : PT := (P.1, u1 P.2.1 w 0, if P.2.1 w = 0 then P.2.2 else u1 P.2.2 (P.2.1 w) 0)
def lnk (P : PT) (w m : Nat) : PT := (u1 P.1 w m, u1 P.2.1 w (P.1 w), if m = 0 then P.2.2 else u1 P.2.2 m w)
def mel (P : PT) : List (Nat × Nat) → Nat → PT
  | [], _ => P
  | p :: t, q => lnk (mel (cutR P p.1) t q) p.1 (hd t q)
def hn (P : PT) (z : Nat → Nat) (p : Nat × Nat) : Nat := if z p.1 + z p.2 < 2 * z (P.1 p.1) then 1 else 0
/-- a child cut off, with sizes -/
theorem WF.cut {P : PT} {T z : Nat → Nat} (h : WF P T z) {w : Nat} (hw : T w ≠ 0) (hu : P.2.2 w = 0) : WF (cutR P w) T (u1 z w (z w - z (P.2.1 w))) := by
  have w0 := h.n0 hw
  have hz0 : z 0 = 0 := h.2.1
  by_cases c0 : P.2.1 w = 0
  · have e1 : cutR P w = P := by
      unfold cutR
      rw [c0, if_pos rfl]
      have : u1 P.2.1 w 0 = P.2.1 := by rw [← c0]; exact u1_id _ _
      rw [this]
    have e2 : u1 z w (z w - z (P.2.1 w)) = z := by rw [c0, hz0, Nat.sub_zero]; exact u1_id _ _
    rw [e1, e2]
    exact h
  · obtain ⟨l, r, u⟩ := P
    dsimp only at *
    have hs := h.ws.cr hw c0
    have hww := h.2.2 w hw
    refine ⟨h.1, by rw [u1_o _ _ (Ne.symm w0)]; exact hz0, fun n hn => ?_⟩
    have q := hs.2 n hn
    unfold cutR
    dsimp only
    rw [if_neg c0]
    refine ⟨q.1, q.2.1, q.2.2.1, q.2.2.2, ?_⟩
    have hwn := h.2.2 n hn
    dsimp only at hwn
    have lw : l n ≠ w := fun e => by
      have := (hwn.1 (by rw [e]; exact w0)).1
      rw [e, hu] at this
      exact h.n0 hn this.symm
    have rw' : r n ≠ w := fun e => by
      have := (hwn.2.1 (by rw [e]; exact w0)).1
      rw [e, hu] at this
      exact h.n0 hn this.symm
    by_cases nw : n = w
    · subst nw
      rw [u1_s, u1_o _ _ lw, u1_s, u1_o _ _ (Ne.symm w0), hz0]
      have := hww.2.2.2.2
      dsimp only at this
      omega
    · rw [u1_o _ _ nw, u1_o _ _ lw, u1_o r _ nw, u1_o _ _ rw']
      exact hwn.2.2.2.2
/-- a tree hung to the left of a root whose left child goes right -/
theorem WF.lnk {P : PT} {T z : Nat → Nat} (h : WF P T z) {w m : Nat} (hw : T w ≠ 0) (hu : P.2.2 w = 0) (hr : P.2.1 w = 0) (hm : m ≠ 0 → T m = T w ∧ P.2.2 m = 0 ∧ m ≠ w) : WF (_root_.Jvm.Pilot.CStepPurseLaw_law_r8377_2c7bf5.lnk P w m) T (u1 z w (z w + z m)) := by
  have w0 := h.n0 hw
  have hz0 : z 0 = 0 := h.2.1
  obtain ⟨l, r, u⟩ := P
  dsimp only at *
  unfold _root_.Jvm.Pilot.CStepPurseLaw_law_r8377_2c7bf5.lnk
  dsimp only
  have hww := h.2.2 w hw
  dsimp only at hww
  refine ⟨h.1, by rw [u1_o _ _ (Ne.symm w0)]; exact hz0, fun n hn => ?_⟩
  have hwn := h.2.2 n hn
  have n0 := h.n0 hn
  dsimp only at hwn
  have lw : l n ≠ w := fun e => by
    have := (hwn.1 (by rw [e]; exact w0)).1
    rw [e, hu] at this
    exact n0 this.symm
  have rw' : r n ≠ w := fun e => by
    have := (hwn.2.1 (by rw [e]; exact w0)).1
    rw [e, hu] at this
    exact n0 this.symm
  have lm : m ≠ 0 → l n ≠ m := fun m0 e => by
    have := (hwn.1 (by rw [e]; exact m0)).1
    rw [e, (hm m0).2.1] at this
    exact n0 this.symm
  have rm : m ≠ 0 → r n ≠ m := fun m0 e => by
    have := (hwn.2.1 (by rw [e]; exact m0)).1
    rw [e, (hm m0).2.1] at this
    exact n0 this.symm
  have lwm : m ≠ 0 → l w ≠ m := fun m0 e => by
    have := (hww.1 (by rw [e]; exact m0)).1
    rw [e, (hm m0).2.1] at this
    exact w0 this.symm
  have lww : l w ≠ w := fun e => by
    have := (hww.1 (by rw [e]; exact w0)).1
    rw [e, hu] at this
    exact w0 this.symm
  obtain ⟨a1, a2, a3, a4, a5⟩ := hwn
  obtain ⟨b1, b2, b3, b4, b5⟩ := hww
  by_cases m0 : m = 0
  · subst m0
    simp only [if_true]
    rw [hz0, Nat.add_zero, u1_id]
    clear h hm lm rm lwm
    refine ⟨?_, ?_, ?_, ?_, ?_⟩ <;> unfold u1 <;> grind (splits := 20)
  · obtain ⟨m1, m2, m3⟩ := hm m0
    have lm' := lm m0
    have rm' := rm m0
    have lwm' := lwm m0
    simp only [m0, if_false]
    clear h hm lm rm lwm
    refine ⟨?_, ?_, ?_, ?_, ?_⟩
    · unfold u1; grind (splits := 20)
    · unfold u1; grind (splits := 20)
    · unfold u1; grind (splits := 20)
    · unfold u1; grind (splits := 20)
    · by_cases nw : n = w
      · subst nw
        rw [u1_s, u1_s, u1_s, u1_o z _ m3, u1_o z _ lww]
        rw [hr] at b5
        omega
      · rw [u1_o z _ nw, u1_o l _ nw, u1_o r _ nw, u1_o z _ lw, u1_o z _ rw']
        exact a5
/-- nodes without a parent, but for the two, are not met -/
theorem mwP_ne {P : PT} {T z : Nat → Nat} (h : WF P T z) (fs : Nat → Nat → Bool) {x : Nat} (hx : P.2.2 x = 0) (x0 : x ≠ 0) : ∀ (f a b : Nat), LZ T a → LZ T b → x ≠ a → x ≠ b → x ∉ (mwP fs P f a b).1.map Prod.fst ∧ x ∉ (mwP fs P f a b).1.map Prod.snd ∧ x ≠ (mwP fs P f a b).2 ∧ ∀ v u, mwP fs (P.1, u1 P.2.1 x v, u) f a b = mwP fs P f a b := by
  intro f
  induction f with
  | zero =>
    intro a b ha hb xa xb
    refine ⟨fun q => (by cases q), fun q => (by cases q), ?_, fun _ _ => rfl⟩
    show x ≠ if a = 0 then b else a
    by_cases a0 : a = 0
    · rw [if_pos a0]; exact xb
    · rw [if_neg a0]; exact xa
  | succ f ih =>
    intro a b ha hb xa xb
    unfold mwP
    by_cases e : a = 0 ∨ b = 0
    · rw [if_pos e]
      refine ⟨fun q => (by cases q), fun q => (by cases q), ?_, fun v u => by rw [if_pos e]⟩
      show x ≠ if a = 0 then b else a
      by_cases a0 : a = 0
      · rw [if_pos a0]; exact xb
      · rw [if_neg a0]; exact xa
    · rw [if_neg e]
      have a0 : a ≠ 0 := fun q => e (Or.inl q)
      have b0 : b ≠ 0 := fun q => e (Or.inr q)
      have haT : T a ≠ 0 := by rcases ha with q | q; exact absurd q a0; exact q
      have hbT : T b ≠ 0 := by rcases hb with q | q; exact absurd q b0; exact q
      have hrT : T (if fs a b then a else b) ≠ 0 := by split; exact haT; exact hbT
      have hoT : T (if fs a b then b else a) ≠ 0 := by split; exact hbT; exact haT
      have xr : x ≠ (if fs a b then a else b) := by split; exact xa; exact xb
      have xo : x ≠ (if fs a b then b else a) := by split; exact xb; exact xa
      have xc : x ≠ P.2.1 (if fs a b then a else b) := fun g => by
        have := ((h.2.2 _ hrT).2.1 (by rw [← g]; exact x0)).1
        rw [← g, hx] at this
        exact h.n0 hrT this.symm
      obtain ⟨i1, i2, i3, i4⟩ := ih (P.2.1 (if fs a b then a else b)) (if fs a b then b else a) (h.lzr hrT) (Or.inr hoT) xc xo
      refine ⟨fun q => ?_, fun q => ?_, i3, fun v u => ?_⟩
      · rw [List.map_cons] at q
        rcases List.mem_cons.mp q with g | g
        · exact xr g
        · exact i1 g
      · rw [List.map_cons] at q
        rcases List.mem_cons.mp q with g | g
        · exact xo g
        · exact i2 g
      · rw [if_neg e]
        dsimp only
        rw [u1_o _ _ (Ne.symm xr), i4]
theorem mwP_T {P : PT} {T z : Nat → Nat} (h : WF P T z) (fs : Nat → Nat → Bool) {κ : Nat} (κ0 : κ ≠ 0) (f a b : Nat) (ha : a ≠ 0 → T a = κ) (hb : b ≠ 0 → T b = κ) : ∀ p, p ∈ (mwP fs P f a b).1 → T p.1 = κ := by
  intro p hp
  have := (mwF_mem h fs κ0 f a b ha hb).1 p.1
  rw [mwP_F] at this
  exact this (List.mem_map.mpr ⟨p, hp, rfl⟩)
set_option maxHeartbeats 4000000 in
theorem mel_ok {T : Nat → Nat} (hT : TN T) (fs : Nat → Nat → Bool) {κ : Nat} (κ0 : κ ≠ 0) : ∀ (f : Nat) (P : PT) (z : Nat → Nat) (a b : Nat), WF P T z → (a ≠ 0 → T a = κ ∧ P.2.2 a = 0) → (b ≠ 0 → T b = κ ∧ P.2.2 b = 0) → (a ≠ 0 → a ≠ b) → z a + z b ≤ f →
    ∃ z', WF (mel P (mwP fs P f a b).1 (mwP fs P f a b).2) T z' ∧ (hd (mwP fs P f a b).1 (mwP fs P f a b).2 ≠ 0 → T (hd (mwP fs P f a b).1 (mwP fs P f a b).2) = κ ∧ (mel P (mwP fs P f a b).1 (mwP fs P f a b).2).2.2 (hd (mwP fs P f a b).1 (mwP fs P f a b).2) = 0) ∧ z' (hd (mwP fs P f a b).1 (mwP fs P f a b).2) = z a + z b ∧
      (∀ x, T x ≠ 0 → P.2.2 x = 0 → x ≠ a → x ≠ b → (mel P (mwP fs P f a b).1 (mwP fs P f a b).2).1 x = P.1 x ∧ (mel P (mwP fs P f a b).1 (mwP fs P f a b).2).2.1 x = P.2.1 x ∧ (mel P (mwP fs P f a b).1 (mwP fs P f a b).2).2.2 x = 0 ∧ z' x = z x ∧ x ≠ hd (mwP fs P f a b).1 (mwP fs P f a b).2) ∧
      (∀ x, T x ≠ κ → (mel P (mwP fs P f a b).1 (mwP fs P f a b).2).1 x = P.1 x ∧ (mel P (mwP fs P f a b).1 (mwP fs P f a b).2).2.1 x = P.2.1 x ∧ (mel P (mwP fs P f a b).1 (mwP fs P f a b).2).2.2 x = P.2.2 x ∧ z' x = z x) ∧
      (∀ x, T x ≠ 0 → (mel P (mwP fs P f a b).1 (mwP fs P f a b).2).2.2 x = 0 → x = hd (mwP fs P f a b).1 (mwP fs P f a b).2 ∨ (P.2.2 x = 0 ∧ x ≠ a ∧ x ≠ b)) ∧
      Sm T κ (hv (mel P (mwP fs P f a b).1 (mwP fs P f a b).2) z') + ((mwP fs P f a b).1.map (fun p => hv P z p.1)).sum = Sm T κ (hv P z) + ((mwP fs P f a b).1.map (hn P z)).sum := by
  have stop : ∀ (P : PT) (z : Nat → Nat) (a b : Nat), WF P T z → (a ≠ 0 → T a = κ ∧ P.2.2 a = 0) → (b ≠ 0 → T b = κ ∧ P.2.2 b = 0) → (a = 0 ∨ b = 0) →
      ∃ z', WF (mel P [] (if a = 0 then b else a)) T z' ∧ (hd [] (if a = 0 then b else a) ≠ 0 → T (hd [] (if a = 0 then b else a)) = κ ∧ (mel P [] (if a = 0 then b else a)).2.2 (hd [] (if a = 0 then b else a)) = 0) ∧ z' (hd [] (if a = 0 then b else a)) = z a + z b ∧
      (∀ x, T x ≠ 0 → P.2.2 x = 0 → x ≠ a → x ≠ b → (mel P [] (if a = 0 then b else a)).1 x = P.1 x ∧ (mel P [] (if a = 0 then b else a)).2.1 x = P.2.1 x ∧ (mel P [] (if a = 0 then b else a)).2.2 x = 0 ∧ z' x = z x ∧ x ≠ hd [] (if a = 0 then b else a)) ∧
      (∀ x, T x ≠ κ → (mel P [] (if a = 0 then b else a)).1 x = P.1 x ∧ (mel P [] (if a = 0 then b else a)).2.1 x = P.2.1 x ∧ (mel P [] (if a = 0 then b else a)).2.2 x = P.2.2 x ∧ z' x = z x) ∧
      (∀ x, T x ≠ 0 → (mel P [] (if a = 0 then b else a)).2.2 x = 0 → x = hd [] (if a = 0 then b else a) ∨ (P.2.2 x = 0 ∧ x ≠ a ∧ x ≠ b)) ∧
      Sm T κ (hv (mel P [] (if a = 0 then b else a)) z') + (([] : List (Nat × Nat)).map (fun p => hv P z p.1)).sum = Sm T κ (hv P z) + (([] : List (Nat × Nat)).map (hn P z)).sum := by
    intro P z a b h ha hb hab
    have hz0 : z 0 = 0 := h.2.1
    refine ⟨z, h, fun q => ?_, ?_, fun x hx hu xa xb => ⟨rfl, rfl, hu, rfl, ?_⟩, fun x _ => ⟨rfl, rfl, rfl, rfl⟩, fun x hx hu => ?_, rfl⟩
    · show T (if a = 0 then b else a) = κ ∧ P.2.2 (if a = 0 then b else a) = 0
      have q' : (if a = 0 then b else a) ≠ 0 := q
      by_cases a0 : a = 0
      · rw [if_pos a0] at q' ⊢; exact hb q'
      · rw [if_neg a0]; exact ha a0
    · show z (if a = 0 then b else a) = z a + z b
      by_cases a0 : a = 0
      · rw [if_pos a0, a0, hz0]; omega
      · rw [if_neg a0]
        rcases hab with q | q
        · exact absurd q a0
        · rw [q, hz0]; omega
    · show x ≠ if a = 0 then b else a
      by_cases a0 : a = 0
      · rw [if_pos a0]; exact xb
      · rw [if_neg a0]; exact xa
    · have x0 := h.n0 hx
      show x = (if a = 0 then b else a) ∨ _
      by_cases a0 : a = 0
      · rw [if_pos a0]
        by_cases xb : x = b
        · exact Or.inl xb
        · exact Or.inr ⟨hu, by rw [a0]; exact x0, xb⟩
      · rw [if_neg a0]
        by_cases xa : x = a
        · exact Or.inl xa
        · rcases hab with q | q
          · exact absurd q a0
          · exact Or.inr ⟨hu, xa, by rw [q]; exact x0⟩
  intro f
  induction f with
  | zero =>
    intro P z a b h ha hb hne hz
    have ab : a = 0 ∨ b = 0 := by
      by_cases a0 : a = 0
      · exact Or.inl a0
      · have := h.pos (show T a ≠ 0 by rw [(ha a0).1]; exact κ0)
        omega
    exact stop P z a b h ha hb ab
  | succ f ih =>
    intro P z a b h ha hb hne hz
    by_cases ab : a = 0 ∨ b = 0
    · have e : mwP fs P (f + 1) a b = ([], if a = 0 then b else a) := by
        show (if a = 0 ∨ b = 0 then _ else _) = _
        rw [if_pos ab]
      rw [e]
      exact stop P z a b h ha hb ab
    · have a0 : a ≠ 0 := fun q => ab (Or.inl q)
      have b0 : b ≠ 0 := fun q => ab (Or.inr q)
      have e : mwP fs P (f + 1) a b = ((if fs a b then a else b, if fs a b then b else a) :: (mwP fs P f (P.2.1 (if fs a b then a else b)) (if fs a b then b else a)).1, (mwP fs P f (P.2.1 (if fs a b then a else b)) (if fs a b then b else a)).2) := by
        show (if a = 0 ∨ b = 0 then _ else _) = _
        rw [if_neg ab]
      rw [e]
      have hw1 : ∃ w o, (if fs a b then a else b) = w ∧ (if fs a b then b else a) = o ∧ ((w = a ∧ o = b) ∨ (w = b ∧ o = a)) := by
        by_cases q : fs a b = true
        · exact ⟨a, b, by rw [if_pos q], by rw [if_pos q], Or.inl ⟨rfl, rfl⟩⟩
        · exact ⟨b, a, by rw [if_neg q], by rw [if_neg q], Or.inr ⟨rfl, rfl⟩⟩
      obtain ⟨w, o, ew, eo, hwo⟩ := hw1
      rw [ew, eo]
      have hwF : T w = κ ∧ P.2.2 w = 0 := by rcases hwo with q | q; rw [q.1]; exact ha a0; rw [q.1]; exact hb b0
      have hoF : T o = κ ∧ P.2.2 o = 0 := by rcases hwo with q | q; rw [q.2]; exact hb b0; rw [q.2]; exact ha a0
      have hwo' : w ≠ o := by rcases hwo with q | q; rw [q.1, q.2]; exact hne a0; rw [q.1, q.2]; exact Ne.symm (hne a0)
      have hsum : z w + z o = z a + z b := by rcases hwo with q | q; rw [q.1, q.2]; rw [q.1, q.2, Nat.add_comm]
      have hxab : ∀ x, (x ≠ a ∧ x ≠ b) ↔ (x ≠ w ∧ x ≠ o) := by
        intro x
        rcases hwo with q | q
        · rw [q.1, q.2]
        · rw [q.1, q.2]; exact ⟨fun g => ⟨g.2, g.1⟩, fun g => ⟨g.2, g.1⟩⟩
      clear ew eo e
      have wT : T w ≠ 0 := by rw [hwF.1]; exact κ0
      have oT : T o ≠ 0 := by rw [hoF.1]; exact κ0
      have w0 := h.n0 wT
      have o0 := h.n0 oT
      have hz0 : z 0 = 0 := h.2.1
      obtain ⟨v1, v2, v3, v4, v5⟩ := h.2.2 w wT
      have ac : P.2.1 w ≠ 0 → T (P.2.1 w) = κ ∧ P.2.2 (P.2.1 w) = w := fun q => ⟨by rw [(v2 q).2]; exact hwF.1, (v2 q).1⟩
      have aw : P.2.1 w ≠ w := fun q => by have := (ac (by rw [q]; exact w0)).2; rw [q, hwF.2] at this; exact w0 this.symm
      have ao : P.2.1 w ≠ o := fun q => by have := (ac (by rw [q]; exact o0)).2; rw [q, hoF.2] at this; exact w0 this.symm
      have chw : ∀ x, T x ≠ 0 → P.1 x ≠ w ∧ P.2.1 x ≠ w := fun x hx => by
        obtain ⟨c1, c2, -⟩ := h.2.2 x hx
        refine ⟨fun q => ?_, fun q => ?_⟩
        · have := (c1 (by rw [q]; exact w0)).1; rw [q, hwF.2] at this; exact h.n0 hx this.symm
        · have := (c2 (by rw [q]; exact w0)).1; rw [q, hwF.2] at this; exact h.n0 hx this.symm
      have hc := h.cut wT hwF.2
      have cU : ∀ x, (cutR P w).2.2 x = if x = P.2.1 w ∧ P.2.1 w ≠ 0 then 0 else P.2.2 x := by
        intro x
        show (if P.2.1 w = 0 then P.2.2 else u1 P.2.2 (P.2.1 w) 0) x = _
        by_cases q : P.2.1 w = 0
        · rw [if_pos q, if_neg (fun g => g.2 q)]
        · rw [if_neg q]
          unfold u1
          by_cases g : x = P.2.1 w
          · rw [if_pos g, if_pos ⟨g, q⟩]
          · rw [if_neg g, if_neg (fun k => g k.1)]
      have cUw : (cutR P w).2.2 w = 0 := by rw [cU, if_neg (fun g => aw g.1.symm)]; exact hwF.2
      have cR : ∀ x, x ≠ w → (cutR P w).2.1 x = P.2.1 x := fun x hx => u1_o _ _ hx
      have cRw : (cutR P w).2.1 w = 0 := u1_s _ _ _
      have za : u1 z w (z w - z (P.2.1 w)) (P.2.1 w) = z (P.2.1 w) := u1_o _ _ aw
      have zo : u1 z w (z w - z (P.2.1 w)) o = z o := u1_o _ _ (Ne.symm hwo')
      have zz1 : ∀ x, x ≠ w → u1 z w (z w - z (P.2.1 w)) x = z x := fun x hx => u1_o _ _ hx
      obtain ⟨n1, n2, n3, n4⟩ := mwP_ne hc fs cUw w0 f (P.2.1 w) o (h.lzr wT) (Or.inr oT) (Ne.symm aw) hwo'
      have ePc : mwP fs (cutR P w) f (P.2.1 w) o = mwP fs P f (P.2.1 w) o := by
        have := n4 (P.2.1 w) P.2.2
        have e2 : ((cutR P w).1, u1 (cutR P w).2.1 w (P.2.1 w), P.2.2) = P := by
          show (P.1, u1 (u1 P.2.1 w 0) w (P.2.1 w), P.2.2) = P
          rw [u1_u1, u1_id]
        rw [e2] at this
        exact this.symm
      obtain ⟨z1, i1, i2, i3, i4, i5, i6, i7⟩ := ih (cutR P w) (u1 z w (z w - z (P.2.1 w))) (P.2.1 w) o hc (fun q => ⟨(ac q).1, by rw [cU, if_pos ⟨rfl, q⟩]⟩) (fun _ => ⟨hoF.1, by rw [cU, if_neg (fun g => ao g.1.symm)]; exact hoF.2⟩) (fun _ => ao) (by rw [za, zo]; omega)
      have mT := mwP_T h fs κ0 f (P.2.1 w) o (fun q => (ac q).1) (fun _ => hoF.1)
      rw [ePc] at i1 i2 i3 i4 i5 i6 i7 n1 n2 n3
      rw [za, zo] at i3
      generalize hl : (mwP fs P f (P.2.1 w) o).1 = l at *
      generalize hq : (mwP fs P f (P.2.1 w) o).2 = q at *
      obtain ⟨j1, j2, j3, j4, j5⟩ := i4 w wT cUw (Ne.symm aw) hwo'
      have j4' : z1 w = z w - z (P.2.1 w) := by rw [j4, u1_s]
      have hle : z (P.2.1 w) ≤ z w := by omega
      have hlk := i1.lnk (m := hd l q) wT j3 (j2.trans cRw) (fun m0 => ⟨by rw [(i2 m0).1, hwF.1], (i2 m0).2, Ne.symm j5⟩)
      have eml : mel P ((w, o) :: l) q = lnk (mel (cutR P w) l q) w (hd l q) := rfl
      have ehd : hd ((w, o) :: l) q = w := rfl
      have zm1 : z1 (P.1 w) = z (P.1 w) := by
        have k1 := (i1.2.2 w wT).2.2.2.2
        rw [j1, j2, cRw, i1.2.1] at k1
        have k2 : (cutR P w).1 w = P.1 w := rfl
        rw [k2] at k1
        omega
      rw [eml, ehd]
      refine ⟨u1 z1 w (z1 w + z1 (hd l q)), hlk, fun _ => ⟨hwF.1, ?_⟩, ?_, ?_, ?_, ?_, ?_⟩
      · show (if hd l q = 0 then (mel (cutR P w) l q).2.2 else u1 (mel (cutR P w) l q).2.2 (hd l q) w) w = 0
        by_cases m0 : hd l q = 0
        · rw [if_pos m0]; exact j3
        · rw [if_neg m0, u1_o _ _ j5]; exact j3
      · rw [u1_s, j4', i3]; omega
      · intro x hx hu xa xb
        obtain ⟨xw, xo⟩ := (hxab x).mp ⟨xa, xb⟩
        have x0 := h.n0 hx
        have xc : x ≠ P.2.1 w := fun g => by
          have := (ac (by rw [← g]; exact x0)).2
          rw [← g, hu] at this
          exact w0 this.symm
        obtain ⟨k1, k2, k3, k4, k5⟩ := i4 x hx (by rw [cU, if_neg (fun g => xc g.1)]; exact hu) xc xo
        refine ⟨?_, ?_, ?_, ?_, xw⟩
        · show u1 (mel (cutR P w) l q).1 w (hd l q) x = P.1 x
          rw [u1_o _ _ xw]; exact k1
        · show u1 (mel (cutR P w) l q).2.1 w _ x = P.2.1 x
          rw [u1_o _ _ xw, k2]; exact cR x xw
        · show (if hd l q = 0 then (mel (cutR P w) l q).2.2 else u1 (mel (cutR P w) l q).2.2 (hd l q) w) x = 0
          by_cases m0 : hd l q = 0
          · rw [if_pos m0]; exact k3
          · rw [if_neg m0, u1_o _ _ k5]; exact k3
        · rw [u1_o _ _ xw, k4]; exact zz1 x xw
      · intro x hx
        have xw : x ≠ w := fun g => hx (by rw [g]; exact hwF.1)
        have xc : ¬ (x = P.2.1 w ∧ P.2.1 w ≠ 0) := fun g => hx (by rw [g.1]; exact (ac g.2).1)
        obtain ⟨k1, k2, k3, k4⟩ := i5 x hx
        refine ⟨?_, ?_, ?_, ?_⟩
        · show u1 (mel (cutR P w) l q).1 w (hd l q) x = P.1 x
          rw [u1_o _ _ xw]; exact k1
        · show u1 (mel (cutR P w) l q).2.1 w _ x = P.2.1 x
          rw [u1_o _ _ xw, k2]; exact cR x xw
        · show (if hd l q = 0 then (mel (cutR P w) l q).2.2 else u1 (mel (cutR P w) l q).2.2 (hd l q) w) x = P.2.2 x
          have k3' : (mel (cutR P w) l q).2.2 x = P.2.2 x := by rw [k3, cU, if_neg xc]
          by_cases m0 : hd l q = 0
          · rw [if_pos m0]; exact k3'
          · rw [if_neg m0, u1_o _ _ (fun g => hx (by rw [g]; exact (i2 m0).1))]; exact k3'
        · rw [u1_o _ _ xw, k4]; exact zz1 x xw
      · intro x hx hu
        by_cases xw : x = w
        · exact Or.inl xw
        · refine Or.inr ?_
          have hu' : (if hd l q = 0 then (mel (cutR P w) l q).2.2 else u1 (mel (cutR P w) l q).2.2 (hd l q) w) x = 0 := hu
          have hxm : x ≠ hd l q := fun g => by
            have m0 : hd l q ≠ 0 := by rw [← g]; exact h.n0 hx
            rw [if_neg m0, g, u1_s] at hu'
            exact w0 hu'
          have hu2 : (mel (cutR P w) l q).2.2 x = 0 := by
            by_cases m0 : hd l q = 0
            · rw [if_pos m0] at hu'; exact hu'
            · rw [if_neg m0, u1_o _ _ hxm] at hu'; exact hu'
          rcases i6 x hx hu2 with g | g
          · exact absurd g hxm
          · obtain ⟨g1, g2, g3⟩ := g
            rw [cU, if_neg (fun k => g2 k.1)] at g1
            have := (hxab x).mpr ⟨xw, g3⟩
            exact ⟨g1, this.1, this.2⟩
      · -- the sums
        have s1 : Sm T κ (hv (cutR P w) (u1 z w (z w - z (P.2.1 w)))) + hv P z w = Sm T κ (hv P z) := by
          have e1 : Sm T κ (hv (cutR P w) (u1 z w (z w - z (P.2.1 w)))) = Sm T κ (u1 (hv P z) w 0) := by
            refine Sm_congr hT κ0 (fun x hx => ?_)
            have hx0 : T x ≠ 0 := by rw [hx]; exact κ0
            by_cases xw : x = w
            · rw [xw, u1_s]
              unfold hv
              rw [cRw, u1_o _ _ (Ne.symm w0), hz0, if_neg (by omega)]
            · rw [u1_o _ _ xw]
              unfold hv
              rw [cR x xw, zz1 x xw, zz1 _ (chw x hx0).2]
          have e2 := Sm_upd hT κ0 (hv P z) 0 hwF.1
          rw [e1]
          omega
        have s2 : Sm T κ (hv (lnk (mel (cutR P w) l q) w (hd l q)) (u1 z1 w (z1 w + z1 (hd l q)))) = Sm T κ (hv (mel (cutR P w) l q) z1) + hn P z (w, o) := by
          have chw1 : ∀ x, T x ≠ 0 → (mel (cutR P w) l q).2.1 x ≠ w := fun x hx g => by
            have := ((i1.2.2 x hx).2.1 (by rw [g]; exact w0)).1
            rw [g, j3] at this
            exact h.n0 hx this.symm
          have hw0 : hv (mel (cutR P w) l q) z1 w = 0 := by
            unfold hv
            rw [j2, cRw, i1.2.1, if_neg (by omega)]
          have e1 : Sm T κ (hv (lnk (mel (cutR P w) l q) w (hd l q)) (u1 z1 w (z1 w + z1 (hd l q)))) = Sm T κ (u1 (hv (mel (cutR P w) l q) z1) w (hn P z (w, o))) := by
            refine Sm_congr hT κ0 (fun x hx => ?_)
            have hx0 : T x ≠ 0 := by rw [hx]; exact κ0
            by_cases xw : x = w
            · rw [xw, u1_s]
              unfold hv hn
              have r1 : (lnk (mel (cutR P w) l q) w (hd l q)).2.1 w = P.1 w := by
                show u1 (mel (cutR P w) l q).2.1 w ((mel (cutR P w) l q).1 w) w = P.1 w
                rw [u1_s]; exact j1
              rw [r1, u1_s, u1_o z1 _ (chw w wT).1, zm1, j4', i3]
              rw [show z w - z (P.2.1 w) + (z (P.2.1 w) + z o) = z w + z o from by omega]
            · rw [u1_o _ _ xw]
              unfold hv
              have r1 : (lnk (mel (cutR P w) l q) w (hd l q)).2.1 x = (mel (cutR P w) l q).2.1 x := u1_o _ _ xw
              rw [r1, u1_o _ _ xw, u1_o _ _ (chw1 x hx0)]
          have e2 := Sm_upd hT κ0 (hv (mel (cutR P w) l q) z1) (hn P z (w, o)) hwF.1
          rw [e1]
          omega
        have t1 : (l.map (fun p => hv (cutR P w) (u1 z w (z w - z (P.2.1 w))) p.1)).sum = (l.map (fun p => hv P z p.1)).sum := by
          refine congrArg List.sum (List.map_congr_left (fun p hp => ?_))
          have pT : T p.1 ≠ 0 := by rw [mT p hp]; exact κ0
          have pw : p.1 ≠ w := fun g => n1 (List.mem_map.mpr ⟨p, hp, g⟩)
          unfold hv
          rw [cR _ pw, zz1 _ pw, zz1 _ (chw _ pT).2]
        have t2 : (l.map (hn (cutR P w) (u1 z w (z w - z (P.2.1 w))))).sum = (l.map (hn P z)).sum := by
          refine congrArg List.sum (List.map_congr_left (fun p hp => ?_))
          have pT : T p.1 ≠ 0 := by rw [mT p hp]; exact κ0
          have pw : p.1 ≠ w := fun g => n1 (List.mem_map.mpr ⟨p, hp, g⟩)
          have p2w : p.2 ≠ w := fun g => n2 (List.mem_map.mpr ⟨p, hp, g⟩)
          unfold hn
          have r1 : (cutR P w).1 p.1 = P.1 p.1 := rfl
          rw [r1, zz1 _ pw, zz1 _ p2w, zz1 _ (chw _ pT).1]
        rw [List.map_cons, List.map_cons, List.sum_cons, List.sum_cons, s2]
        rw [t1, t2] at i7
        dsimp only at *
        omega
