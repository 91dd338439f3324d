-- a TURNING tree is cut at its root: the mathematics
section Cut
variable {P P' : PT} {T z : Nat → Nat}
theorem root_nc (hW : WF P T z) {n x : Nat} (n0 : n ≠ 0) (hu : P.2.2 n = 0) (hx : T x ≠ 0) : P.1 x ≠ n ∧ P.2.1 x ≠ n := by
  obtain ⟨v1, v2, -⟩ := hW.2.2 x hx
  have x0 := hW.n0 hx
  constructor
  · intro g
    have := (v1 (by rw [g]; exact n0)).1
    rw [g, hu] at this
    exact x0 this.symm
  · intro g
    have := (v2 (by rw [g]; exact n0)).1
    rw [g, hu] at this
    exact x0 this.symm
theorem wcutR (hW : WF P T z) {n : Nat} (hn : T n ≠ 0) (hu : P.2.2 n = 0) (h1 : ∀ b, T b ≠ 0 → P'.1 b = P.1 b) (h2 : ∀ b, T b ≠ 0 → P'.2.1 b = if b = n then 0 else P.2.1 b) (h3 : ∀ b, T b ≠ 0 → P'.2.2 b = if b = P.2.1 n then 0 else P.2.2 b) : WF P' T (u1 z n (z n - z (P.2.1 n))) := by
  have n0 := hW.n0 hn
  obtain ⟨w1, w2, w3, w4, w5⟩ := hW.2.2 n hn
  by_cases r0 : P.2.1 n = 0
  · have e : u1 z n (z n - z (P.2.1 n)) = z := by rw [r0, hW.2.1, Nat.sub_zero, u1_id]
    rw [e]
    refine hW.pt (fun b hb => ⟨h1 b hb, ?_, ?_⟩)
    · rw [h2 b hb]
      by_cases g : b = n
      · rw [if_pos g, g, r0]
      · rw [if_neg g]
    · rw [h3 b hb, if_neg (by rw [r0]; exact hW.n0 hb)]
  · have ws := WS.cr (l := P.1) (r := P.2.1) (u := P.2.2) hW.ws hn r0
    have wf : WF (P.1, u1 P.2.1 n 0, u1 P.2.2 (P.2.1 n) 0) T (u1 z n (z n - z (P.2.1 n))) := by
      refine ⟨ws.1, by rw [u1_o _ _ (Ne.symm n0)]; exact hW.2.1, fun x hx => ?_⟩
      obtain ⟨a1, a2, a3, a4⟩ := ws.2 x hx
      refine ⟨a1, a2, a3, a4, ?_⟩
      obtain ⟨nl, nr⟩ := root_nc hW n0 hu hx
      have v5 := (hW.2.2 x hx).2.2.2.2
      show u1 z n _ x = 1 + u1 z n _ (P.1 x) + u1 z n _ (u1 P.2.1 n 0 x)
      rw [u1_o _ _ nl]
      by_cases g : x = n
      · rw [g, u1_s, u1_s, u1_o _ _ (Ne.symm n0), hW.2.1]
        omega
      · rw [u1_o _ _ g, u1_o P.2.1 _ g, u1_o _ _ nr]
        exact v5
    refine wf.pt (fun b hb => ⟨h1 b hb, ?_, ?_⟩)
    · rw [h2 b hb]
      show _ = u1 P.2.1 n 0 b
      by_cases g : b = n
      · rw [if_pos g, g, u1_s]
      · rw [if_neg g, u1_o _ _ g]
    · rw [h3 b hb]
      show _ = u1 P.2.2 (P.2.1 n) 0 b
      by_cases g : b = P.2.1 n
      · rw [if_pos g, g, u1_s]
      · rw [if_neg g, u1_o _ _ g]
theorem wcutL (hW : WF P T z) {n : Nat} (hn : T n ≠ 0) (hu : P.2.2 n = 0) (h2 : ∀ b, T b ≠ 0 → P'.2.1 b = P.2.1 b) (h1 : ∀ b, T b ≠ 0 → P'.1 b = if b = n then 0 else P.1 b) (h3 : ∀ b, T b ≠ 0 → P'.2.2 b = if b = P.1 n then 0 else P.2.2 b) : WF P' T (u1 z n (z n - z (P.1 n))) := by
  have n0 := hW.n0 hn
  obtain ⟨w1, w2, w3, w4, w5⟩ := hW.2.2 n hn
  by_cases r0 : P.1 n = 0
  · have e : u1 z n (z n - z (P.1 n)) = z := by rw [r0, hW.2.1, Nat.sub_zero, u1_id]
    rw [e]
    refine hW.pt (fun b hb => ⟨?_, h2 b hb, ?_⟩)
    · rw [h1 b hb]
      by_cases g : b = n
      · rw [if_pos g, g, r0]
      · rw [if_neg g]
    · rw [h3 b hb, if_neg (by rw [r0]; exact hW.n0 hb)]
  · have ws := WS.cl (l := P.1) (r := P.2.1) (u := P.2.2) hW.ws hn r0
    have wf : WF (u1 P.1 n 0, P.2.1, u1 P.2.2 (P.1 n) 0) T (u1 z n (z n - z (P.1 n))) := by
      refine ⟨ws.1, by rw [u1_o _ _ (Ne.symm n0)]; exact hW.2.1, fun x hx => ?_⟩
      obtain ⟨a1, a2, a3, a4⟩ := ws.2 x hx
      refine ⟨a1, a2, a3, a4, ?_⟩
      obtain ⟨nl, nr⟩ := root_nc hW n0 hu hx
      have v5 := (hW.2.2 x hx).2.2.2.2
      show u1 z n _ x = 1 + u1 z n _ (u1 P.1 n 0 x) + u1 z n _ (P.2.1 x)
      rw [u1_o _ _ nr]
      by_cases g : x = n
      · rw [g, u1_s, u1_s, u1_o _ _ (Ne.symm n0), hW.2.1]
        omega
      · rw [u1_o _ _ g, u1_o P.1 _ g, u1_o _ _ nl]
        exact v5
    refine wf.pt (fun b hb => ⟨?_, h2 b hb, ?_⟩)
    · rw [h1 b hb]
      show _ = u1 P.1 n 0 b
      by_cases g : b = n
      · rw [if_pos g, g, u1_s]
      · rw [if_neg g, u1_o _ _ g]
    · rw [h3 b hb]
      show _ = u1 P.2.2 (P.1 n) 0 b
      by_cases g : b = P.1 n
      · rw [if_pos g, g, u1_s]
      · rw [if_neg g, u1_o _ _ g]
theorem cut_fin (hW : WF P T z) (hT : TN T) {κ κ2 a r : Nat} (κ0 : κ ≠ 0) (k20 : κ2 ≠ 0) (ne : κ ≠ κ2) (no : ∀ x, T x ≠ κ2) (hr : r ≠ 0 → T r = κ ∧ P.2.2 r = 0) (ha : a ≠ 0 → T a = κ ∧ P.2.2 a = 0 ∧ a ≠ r) (rt : ∀ x, T x = κ → P.2.2 x = 0 → x = a ∨ x = r) :
    ∃ T2, WF P T2 z ∧ TN T2 ∧ (a ≠ 0 → T2 a = κ) ∧ (r ≠ 0 → T2 r = κ2) ∧ (∀ x, (if T2 x = κ2 then κ else T2 x) = T x) ∧ (∀ x, T x ≠ κ → T2 x = T x) ∧ (∀ x, T2 x = κ → P.2.2 x = 0 → x = a) ∧ (∀ x, T2 x = κ2 → P.2.2 x = 0 → x = r) ∧ (∀ x, T x = κ ↔ (T2 x = κ ∨ T2 x = κ2)) ∧ (r = 0 → ∀ x, T2 x ≠ κ2) := by
  obtain ⟨T2, t1, t2, t3, t4, t5, t6, t7⟩ := split_lab hW hT κ0 k20 no hr ha
  have key : ∀ x, T x = κ ↔ (T2 x = κ ∨ T2 x = κ2) := fun x => by
    rw [← t6 x]
    by_cases g : T2 x = κ2
    · rw [if_pos g]; exact ⟨fun _ => Or.inr g, fun _ => rfl⟩
    · rw [if_neg g]; exact ⟨fun h => Or.inl h, fun h => h.resolve_right g⟩
  refine ⟨T2, t1, t2, t3, t4, t6, t7, fun x hx hu => ?_, fun x hx hu => ?_, key, t5⟩
  · have x0 := t1.n0 (show T2 x ≠ 0 by rw [hx]; exact κ0)
    rcases rt x ((key x).mpr (Or.inl hx)) hu with g | g
    · exact g
    · have r0 : r ≠ 0 := by rw [← g]; exact x0
      rw [g, t4 r0] at hx
      exact absurd hx.symm ne
  · have x0 := t1.n0 (show T2 x ≠ 0 by rw [hx]; exact k20)
    rcases rt x ((key x).mpr (Or.inr hx)) hu with g | g
    · have a0 : a ≠ 0 := by rw [← g]; exact x0
      rw [g, t3 a0] at hx
      exact absurd hx ne
    · exact g
end Cut
theorem gB_ne {ky : Nat → Int64} {P : PT} (k : Int64) (ab : Bool) : ∀ (f n l b : Nat), l ≠ 0 → (gB ky P k ab f n l b).1 ≠ 0 := by
  intro f
  induction f with
  | zero => intro n l b h; exact h
  | succ f ih =>
    intro n l b h
    by_cases n0 : n = 0
    · show (if n = 0 then (l, b, 0) else _).1 ≠ 0
      rw [if_pos n0]; exact h
    · show (if n = 0 then (l, b, 0) else ((gB ky P k ab f (if tR ab (ky n) k then P.2.1 n else P.1 n) n (if tR ab (ky n) k = ab then b else n)).1, (gB ky P k ab f (if tR ab (ky n) k then P.2.1 n else P.1 n) n (if tR ab (ky n) k = ab then b else n)).2.1, (gB ky P k ab f (if tR ab (ky n) k then P.2.1 n else P.1 n) n (if tR ab (ky n) k = ab then b else n)).2.2 + (if l = 0 then 0 else 1))).1 ≠ 0
      rw [if_neg n0]
      exact ih _ n _ n0
theorem gB_n0 {ky : Nat → Int64} {P : PT} (k : Int64) (ab : Bool) (f : Nat) {n : Nat} (n0 : n ≠ 0) : (gB ky P k ab (f + 1) n 0 0).1 ≠ 0 := by
  show (if n = 0 then ((0 : Nat), (0 : Nat), 0) else ((gB ky P k ab f (if tR ab (ky n) k then P.2.1 n else P.1 n) n (if tR ab (ky n) k = ab then 0 else n)).1, (gB ky P k ab f (if tR ab (ky n) k then P.2.1 n else P.1 n) n (if tR ab (ky n) k = ab then 0 else n)).2.1, (gB ky P k ab f (if tR ab (ky n) k then P.2.1 n else P.1 n) n (if tR ab (ky n) k = ab then 0 else n)).2.2 + 0)).1 ≠ 0
  rw [if_neg n0]
  exact gB_ne k ab f _ n _ n0
