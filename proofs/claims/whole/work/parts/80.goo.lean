-- going to a key, with and without the latest way; settling
theorem gT_st {ky : Nat → Int64} {P : PT} {T z : Nat → Nat} (hW : WF P T z) (k : Int64) : ∀ (f g n : Nat), LZ T n → z n ≤ f → z n ≤ g → gT ky P k f n = gT ky P k g n := by
  intro f
  induction f with
  | zero =>
    intro g n hn h1 _
    have n0 : n = 0 := (hW.zpos hn).mp (by omega)
    subst n0
    cases g with
    | zero => rfl
    | succ g => simp only [gT, if_true]
  | succ f ih =>
    intro g n hn h1 h2
    by_cases n0 : n = 0
    · subst n0
      cases g with
      | zero => simp only [gT, if_true]
      | succ g => simp only [gT, if_true]
    · have t := hn.resolve_left n0
      have hp := hW.pos t
      have w := (hW.2.2 n t).2.2.2.2
      cases g with
      | zero => omega
      | succ g =>
        have := ih g (if k < ky n then P.1 n else P.2.1 n) (by split; exact hW.lzl t; exact hW.lzr t) (by split <;> omega) (by split <;> omega)
        simp only [gT, this]
/-- a node that the way leads through -/
theorem gT_skip {ky : Nat → Int64} {P : PT} {T z : Nat → Nat} (hW : WF P T z) (k : Int64) (f : Nat) {l : Nat} (hl : T l ≠ 0) : ∀ (j : Nat), upI P j l ≠ 0 → (∀ i, i < j → (P.1 (upI P (i + 1) l) = upI P i l → k < ky (upI P (i + 1) l)) ∧ (P.2.1 (upI P (i + 1) l) = upI P i l → ky (upI P (i + 1) l) < k)) → gT ky P k (f + j) (upI P j l) = ((gT ky P k f l).1, (gT ky P k f l).2 + j) := by
  intro j
  induction j with
  | zero => intro _ _; rfl
  | succ j ih =>
    intro hu hd
    have y0 : upI P j l ≠ 0 := by
      intro q
      apply hu
      have : ∀ (j x : Nat), x ≠ 0 → upI P j x = 0 → upI P (j + 1) x = 0 := by
        intro j
        induction j with
        | zero => intro x x0 h; exact absurd h x0
        | succ j ih2 =>
          intro x x0 h
          by_cases u : P.2.2 x = 0
          · exact upI_N P (j + 1) x u
          · rw [upI_S P j x u] at h
            rw [upI_S P (j + 1) x u]
            exact ih2 _ u h
      exact this j l (hW.n0 hl) q
    have ty := upI_z hW j l hl y0
    have ey : upI P (j + 1) l = P.2.2 (upI P j l) := by
      rw [upI_add j 1 l y0]
      show (if P.2.2 (upI P j l) = 0 then 0 else P.2.2 (upI P j l)) = _
      split <;> simp_all
    have ih' := ih y0 (fun i hi => hd i (by omega))
    have hj := hd j (by omega)
    rw [ey] at hu hj ⊢
    have ty0 : T (upI P j l) ≠ 0 := by rw [ty.2]; exact hl
    have wy := ((hW.2.2 _ ty0).2.2.1 hu).1
    have go : (if k < ky (P.2.2 (upI P j l)) then P.1 (P.2.2 (upI P j l)) else P.2.1 (P.2.2 (upI P j l))) = upI P j l ∧ ky (P.2.2 (upI P j l)) ≠ k := by
      rcases wy with q | q
      · have := hj.1 q
        rw [if_pos this]
        exact ⟨q, fun e => by rw [e] at this; exact Int64.lt_irrefl this⟩
      · have := hj.2 q
        have hn : ¬ k < ky (P.2.2 (upI P j l)) := fun g => Int64.lt_irrefl (Int64.lt_trans g this)
        rw [if_neg hn]
        exact ⟨q, fun e => by rw [e] at this; exact Int64.lt_irrefl this⟩
    show gT ky P k (f + j + 1) (P.2.2 (upI P j l)) = _
    simp only [gT, hu, if_false, go.2, go.1, y0, ih']
    rw [Nat.add_assoc]
theorem gT_up {ky : Nat → Int64} {P : PT} {T z : Nat → Nat} (hW : WF P T z) (k : Int64) : ∀ (f n : Nat), T n ≠ 0 → upI P (gT ky P k f n).2 (gT ky P k f n).1 = n := by
  intro f
  induction f with
  | zero => intro n _; rfl
  | succ f ih =>
    intro n hn
    have n0 := hW.n0 hn
    by_cases e : ky n = k
    · simp only [gT, n0, if_false, e, if_true]; rfl
    · generalize hc : (if k < ky n then P.1 n else P.2.1 n) = ch
      by_cases c0 : ch = 0
      · simp only [gT, n0, if_false, e, hc, c0, if_true]; rfl
      · have tc : T ch = T n ∧ P.2.2 ch = n := by
          have w := hW.2.2 n hn
          by_cases g : k < ky n
          · rw [if_pos g] at hc
            have := w.1 (by rw [hc]; exact c0)
            rw [hc] at this
            exact ⟨this.2, this.1⟩
          · rw [if_neg g] at hc
            have := w.2.1 (by rw [hc]; exact c0)
            rw [hc] at this
            exact ⟨this.2, this.1⟩
        have i1 := ih ch (by rw [tc.1]; exact hn)
        simp only [gT, n0, if_false, e, hc, c0]
        rw [upI_add _ 1 _ (by rw [i1]; exact c0), i1]
        show (if P.2.2 ch = 0 then 0 else P.2.2 ch) = n
        rw [tc.2, if_neg n0]
/-- where the way last went left, along the class's way -/
theorem cTF_t {d : DS} {c : CS} {T z : Nat → Nat} (hW : WF c.P T z) (k : Int64) {κ : Nat} (κ0 : κ ≠ 0) (hO : ∀ a, T a = κ → OrK c.P c.ck a) : ∀ (f l u : Nat), T l = κ → (∃ t, u = d.ph t ∧ (t = 0 ∨ T t = κ) ∧ Lft c.P c.ck l t) → ∃ t', (cTF d c k f l u).2.1 = d.ph t' ∧ (t' = 0 ∨ T t' = κ) ∧ Lft c.P c.ck (cTF d c k f l u).1 t' := by
  intro f
  induction f with
  | zero => intro l u _ h; exact h
  | succ f ih =>
    intro l u hl h
    have hl0 : T l ≠ 0 := by rw [hl]; exact κ0
    generalize hc : twd c l k = ch
    by_cases c0 : ch = 0
    · simp only [cTF, hc, c0, if_true]; exact h
    · have tc : T ch = T l ∧ c.P.2.2 ch = l := by
        have w := hW.2.2 l hl0
        unfold twd at hc
        by_cases g0 : k = c.ck l
        · rw [if_pos g0] at hc; exact absurd hc.symm c0
        · rw [if_neg g0] at hc
          by_cases g : k < c.ck l
          · rw [if_pos g] at hc
            have := w.1 (by rw [hc]; exact c0)
            rw [hc] at this
            exact ⟨this.2, this.1⟩
          · rw [if_neg g] at hc
            have := w.2.1 (by rw [hc]; exact c0)
            rw [hc] at this
            exact ⟨this.2, this.1⟩
      simp only [cTF, hc, c0, if_false]
      refine ih ch _ (tc.1.trans hl) ?_
      obtain ⟨t, t1, t2, t3⟩ := h
      have hu : c.P.2.2 ch ≠ 0 := by rw [tc.2]; exact hW.n0 hl0
      by_cases g : c.P.1 l = ch
      · refine ⟨l, by rw [if_pos g], Or.inr hl, fun i hi hp => ⟨hW.n0 hl0, ?_⟩⟩
        cases i with
        | zero =>
          rw [upI_S _ _ _ hu, tc.2]
          exact Int64.le_refl _
        | succ i =>
          rw [upI_S c.P (i + 1) ch hu, tc.2] at hi hp ⊢
          rw [upI_S c.P i ch hu, tc.2] at hp
          exact Int64.le_of_lt ((hO l hl i hi).1 hp)
      · refine ⟨t, by rw [if_neg g]; exact t1, t2, fun i hi hp => ?_⟩
        cases i with
        | zero =>
          rw [upI_S _ _ _ hu, tc.2] at hp
          exact absurd hp g
        | succ i =>
          rw [upI_S c.P (i + 1) ch hu, tc.2] at hi hp ⊢
          rw [upI_S c.P i ch hu, tc.2] at hp
          exact t3 i hi hp
section Goo
variable (L : Nat) (xs : Nat → Int32)
/-- goTo, over the invariant -/
theorem go_ok {m : MS} {c : CS} {d : DS} {B : AH} {T z : Nat → Nat} {V R : Nat → List Nat} {FN FI : List Nat} {ow : Nat → Nat} (hj : JJ m c d B T z V R FN FI ow) {s : Nat} (hs : s < m.K) (hk : m.kd s ≤ 1) (k : Int64) {n g2 : Nat} (hn : (gT c.ck c.P k 20003 (c.ro s)).1 = n) (hg : (gT c.ck c.P k 20003 (c.ro s)).2 = g2) :
    ∃ tl', (∀ m0, XM L xs 166 [.ref (d.sa (s + 1)), .long k] (cl (ml B m0) d c) = some (cl (ml B m0) d ((cW c s n tl' g2).sst (u1 c.st s (c.st s + nI g2))), none)) ∧ (m.kd s = 0 → JLs ((cW c s n tl' g2).sst (u1 c.st s (c.st s + nI g2))) d T s) := by
  obtain ⟨jb, js, jt, jr, jp, jd, jv, ji, jf, jw, jh, jz, jl⟩ := id hj
  obtain ⟨h1, h2, h3, h4, h5, h6⟩ := hj.kin hs
  have hw := jb.2.2.2.2.2
  have hD : ∀ x, T x ≠ 0 → d.nid (d.ph x) = x := fun x hx => hj.hD x (Or.inr hx)
  have hF : ∀ a, T a ≠ 0 → z a ≤ 20003 := fun a ha => by have := hj.zle (Or.inr ha); omega
  -- the latest way's node, and from where it last went left
  have ex : ∃ t, (c.la s ≠ 0 → c.tl s = d.ph t) ∧ (t = 0 ∨ T t = s + 1) ∧ LZ T (c.la s) ∧ (c.la s ≠ 0 → m.kd s = 0 ∧ T (c.la s) = s + 1 ∧ upI c.P (c.dp s) (c.la s) = c.ro s ∧ Lft c.P c.ck (c.la s) t) := by
    by_cases l0 : c.la s = 0
    · exact ⟨0, fun q => absurd l0 q, Or.inl rfl, Or.inl l0, fun q => absurd l0 q⟩
    · have k0 : m.kd s = 0 := by
        rcases Nat.eq_zero_or_pos (m.kd s) with q | q
        · exact q
        · exact absurd (jl.1 s hs (by omega)) l0
      obtain ⟨t1, t2, t, t3, t4, t5⟩ := jl.2.1 s hs k0 l0
      exact ⟨t, fun _ => t3, t4, Or.inr (by rw [t1]; exact Nat.succ_ne_zero s), fun _ => ⟨k0, t1, t2, t5⟩⟩
  obtain ⟨t, t1, t2, t3, t4⟩ := ex
  have hO : m.kd s = 0 → ∀ a, T a = s + 1 → OrK c.P c.ck a := fun k0 a ha => jl.2.2 a (by rw [ha]; exact Nat.succ_ne_zero s) (by rw [ha, Nat.add_sub_cancel]; exact k0)
  have c166' := fun m0 => c166 L xs (b := ml B m0) hw jb.2.2.2.1 h2 (hj.tgt hs hk) c jt.1 hD hF k t3 (hj.rz hs) t1 (hj.hD t (t2.elim Or.inl (fun q => Or.inr (by rw [q]; exact Nat.succ_ne_zero s))))
  -- what the way is
  have way : ∃ tl', cGo 20003 d c s t k = (cW c s n tl' g2).sst (u1 c.st s (c.st s + nI g2)) ∧ (m.kd s = 0 → n ≠ 0 → ∃ t', tl' = d.ph t' ∧ (t' = 0 ∨ T t' = s + 1) ∧ Lft c.P c.ck n t') := by
    unfold cGo
    by_cases lt : lth c s t k = true
    · rw [if_pos lt, if_pos lt, if_pos lt]
      have lt' := of_decide_eq_true lt
      obtain ⟨q1, q2, q3⟩ := lt'
      obtain ⟨k0, y1, y2, y3⟩ := t4 q1
      have tl0 : T (c.la s) ≠ 0 := by rw [y1]; exact Nat.succ_ne_zero s
      obtain ⟨a1, a2⟩ := cTF_gT hw jt.1 hD k 20003 (c.la s) (c.tl s) tl0
      have r0 : c.ro s ≠ 0 := fun q => hj.emp hs q _ y1
      have sk := gT_skip (ky := c.ck) jt.1 k 20003 tl0 (c.dp s) (by rw [y2]; exact r0) (fun i hi => by
        have u0 : upI c.P (i + 1) (c.la s) ≠ 0 := by
          intro q
          have : ∀ (j x : Nat), x ≠ 0 → upI c.P j x = 0 → ∀ e, upI c.P (j + e) x = 0 := by
            intro j
            induction j with
            | zero => intro x x0 h; exact absurd h x0
            | succ j ih2 =>
              intro x x0 h e
              by_cases u : c.P.2.2 x = 0
              · rw [show j + 1 + e = (j + e) + 1 from by omega]; exact upI_N c.P (j + e) x u
              · rw [upI_S c.P j x u] at h
                rw [show j + 1 + e = (j + e) + 1 from by omega, upI_S c.P (j + e) x u]
                exact ih2 _ u h e
          have := this (i + 1) (c.la s) q1 q (c.dp s - (i + 1))
          rw [show i + 1 + (c.dp s - (i + 1)) = c.dp s from by omega, y2] at this
          exact r0 this
        refine ⟨fun g => ?_, fun g => ?_⟩
        · obtain ⟨b1, b2⟩ := y3 i u0 g
          exact Int64.lt_of_lt_of_le (q3.resolve_left b1) b2
        · exact Int64.lt_of_lt_of_le ((hO k0 _ y1 i u0).2 g) q2)
      rw [y2] at sk
      have hz := hj.zle (hj.rz hs)
      rw [← gT_st jt.1 k 20003 (20003 + c.dp s) (c.ro s) (hj.rz hs) (by omega) (by omega)] at sk
      have e1 : (gT c.ck c.P k 20003 (c.la s)).1 = n := by rw [← hn, sk]
      have e2 : c.dp s + (gT c.ck c.P k 20003 (c.la s)).2 = g2 := by rw [← hg, sk]; omega
      refine ⟨(cTF d c k 20003 (c.la s) (c.tl s)).2.1, ?_, fun _ n0 => ?_⟩
      · simp only [q1, if_false]
        rw [a1, a2, e1, e2]
      · have := cTF_t (d := d) jt.1 k (Nat.succ_ne_zero s) (hO k0) 20003 (c.la s) (c.tl s) y1 ⟨t, t1 q1, t2, y3⟩
        rw [a1, e1] at this
        exact this
    · rw [if_neg lt, if_neg lt, if_neg lt]
      by_cases r0 : c.ro s = 0
      · refine ⟨0, ?_, fun _ n0 => ?_⟩
        · have e1 : n = 0 := by rw [← hn, r0]; unfold gT; rw [if_pos rfl]
          have e2 : g2 = 0 := by rw [← hg, r0]; unfold gT; rw [if_pos rfl]
          simp only [r0, if_true]
          rw [e1, e2]
        · exact absurd (by rw [← hn, r0]; unfold gT; rw [if_pos rfl]) n0
      · have tr := ((jr s hs).2.2.1 r0).1
        have tr0 : T (c.ro s) ≠ 0 := by rw [tr]; exact Nat.succ_ne_zero s
        obtain ⟨a1, a2⟩ := cTF_gT hw jt.1 hD k 20003 (c.ro s) 0 tr0
        refine ⟨(cTF d c k 20003 (c.ro s) 0).2.1, ?_, fun k0 n0 => ?_⟩
        · simp only [r0, if_false]
          rw [a1, a2, hn, hg, Nat.zero_add]
        · have := cTF_t (d := d) jt.1 k (Nat.succ_ne_zero s) (hO k0) 20003 (c.ro s) 0 tr ⟨0, hw.1.1.symm, Or.inl rfl, fun i hi _ => absurd (upI_N c.P i (c.ro s) ((jr s hs).2.2.1 r0).2) hi⟩
          rw [a1, hn] at this
          exact this
  obtain ⟨tl', w1, w2⟩ := way
  refine ⟨tl', fun m0 => by rw [c166' m0, w1], fun k0 => ?_⟩
  show (u1 c.la s n s ≠ 0 → T (u1 c.la s n s) = s + 1 ∧ upI c.P (u1 c.dp s g2 s) (u1 c.la s n s) = c.ro s ∧ ∃ t, u1 c.tl s tl' s = d.ph t ∧ (t = 0 ∨ T t = s + 1) ∧ Lft c.P c.ck (u1 c.la s n s) t)
  rw [u1_s, u1_s, u1_s]
  intro n0
  have r0 : c.ro s ≠ 0 := fun q => n0 (by rw [← hn, q]; unfold gT; rw [if_pos rfl])
  have tr := ((jr s hs).2.2.1 r0).1
  have tr0 : T (c.ro s) ≠ 0 := by rw [tr]; exact Nat.succ_ne_zero s
  refine ⟨by rw [← hn, gT_mem jt.1 k 20003 _ tr0, tr], ?_, w2 k0 n0⟩
  rw [← hg, ← hn]
  exact gT_up jt.1 k 20003 _ tr0
end Goo
