-- a node goes from a tree; two trees become one: the mathematics
theorem upI_p {P : PT} : ∀ (k a : Nat), a ≠ 0 → upI P (k + 1) a ≠ 0 → upI P k a ≠ 0 := by
  intro k
  induction k with
  | zero => intro a a0 _; exact a0
  | succ k ih =>
    intro a a0 h
    by_cases u : P.2.2 a = 0
    · rw [upI_N P (k + 1) a u] at h; exact absurd rfl h
    · rw [upI_S P (k + 1) a u] at h
      rw [upI_S P k a u]
      exact ih _ u h
theorem upI_l {P : PT} {k a : Nat} (h : upI P k a ≠ 0) : upI P (k + 1) a = P.2.2 (upI P k a) := by
  rw [upI_add k 1 a h]
  by_cases u : P.2.2 (upI P k a) = 0
  · rw [upI_N P 0 _ u, u]
  · rw [upI_S P 0 _ u]; rfl
theorem tk_eq (P : PT) (x ch : Nat) : tkP P x ch = if P.2.2 x = 0 then (P.1, P.2.1, if ch = 0 then P.2.2 else u1 P.2.2 ch (P.2.2 x)) else if P.1 (P.2.2 x) = x then (u1 P.1 (P.2.2 x) ch, P.2.1, if ch = 0 then P.2.2 else u1 P.2.2 ch (P.2.2 x)) else (P.1, u1 P.2.1 (P.2.2 x) ch, if ch = 0 then P.2.2 else u1 P.2.2 ch (P.2.2 x)) := rfl
theorem tk_u (P : PT) (x : Nat) {ch y : Nat} (y0 : y ≠ 0) : (tkP P x ch).2.2 y = if y = ch then P.2.2 x else P.2.2 y := by
  have e : (tkP P x ch).2.2 = if ch = 0 then P.2.2 else u1 P.2.2 ch (P.2.2 x) := by
    rw [tk_eq]
    by_cases p0 : P.2.2 x = 0
    · rw [if_pos p0]
    · rw [if_neg p0]
      by_cases g : P.1 (P.2.2 x) = x
      · rw [if_pos g]
      · rw [if_neg g]
  rw [e]
  by_cases c0 : ch = 0
  · rw [if_pos c0, if_neg (fun q => y0 (q.trans c0))]
  · rw [if_neg c0]
    by_cases q : y = ch
    · rw [q, u1_s, if_pos rfl]
    · rw [u1_o _ _ q, if_neg q]
theorem tk_l (P : PT) (x ch p : Nat) : (tkP P x ch).1 p = if P.2.2 x ≠ 0 ∧ p = P.2.2 x ∧ P.1 p = x then ch else P.1 p := by
  rw [tk_eq]
  generalize (if ch = 0 then P.2.2 else u1 P.2.2 ch (P.2.2 x)) = u
  by_cases p0 : P.2.2 x = 0
  · rw [if_pos p0, if_neg (fun q => q.1 p0)]
  · rw [if_neg p0]
    by_cases g : P.1 (P.2.2 x) = x
    · rw [if_pos g]
      by_cases q : p = P.2.2 x
      · rw [q, if_pos ⟨p0, rfl, g⟩]
        exact u1_s _ _ _
      · rw [if_neg (fun h => q h.2.1)]
        exact u1_o _ _ q
    · rw [if_neg g, if_neg (fun h => g (by rw [← h.2.1]; exact h.2.2))]
theorem tk_r (P : PT) (x ch p : Nat) : (tkP P x ch).2.1 p = if P.2.2 x ≠ 0 ∧ p = P.2.2 x ∧ P.1 p ≠ x then ch else P.2.1 p := by
  rw [tk_eq]
  generalize (if ch = 0 then P.2.2 else u1 P.2.2 ch (P.2.2 x)) = u
  by_cases p0 : P.2.2 x = 0
  · rw [if_pos p0, if_neg (fun q => q.1 p0)]
  · rw [if_neg p0]
    by_cases g : P.1 (P.2.2 x) = x
    · rw [if_pos g, if_neg (fun h => h.2.2 (by rw [h.2.1]; exact g))]
    · rw [if_neg g]
      by_cases q : p = P.2.2 x
      · rw [q, if_pos ⟨p0, rfl, g⟩]
        exact u1_s _ _ _
      · rw [if_neg (fun h => q h.2.1)]
        exact u1_o _ _ q
section Tk
variable {P : PT} {T z : Nat → Nat}
theorem OrK.tk (hW : WF P T z) {x ch a : Nat} {ky : Nat → Int64} (hx : T x ≠ 0) (hc : (P.1 x = 0 ∧ P.2.1 x = ch) ∨ (P.2.1 x = 0 ∧ P.1 x = ch)) (ha : T a ≠ 0) (ax : a ≠ x) (h : OrK P ky a) : OrK (tkP P x ch) ky a := by
  have a0 := hW.n0 ha
  have x0 := hW.n0 hx
  have chp : ch ≠ 0 → P.2.2 ch = x := fun c0 => by
    rcases hc with ⟨-, g⟩ | ⟨-, g⟩
    · rw [← g] at c0 ⊢; exact ((hW.2.2 x hx).2.1 c0).1
    · rw [← g] at c0 ⊢; exact ((hW.2.2 x hx).1 c0).1
  have ux : P.2.2 x ≠ x := fun q => by
    have := (hW.up_lt hx (by rw [q]; exact x0)).1
    rw [q] at this; omega
  have only : ∀ y, T y ≠ 0 → P.2.2 y = x → y = ch := fun y hy e => by
    have y0 := hW.n0 hy
    have := ((hW.2.2 y hy).2.2.1 (by rw [e]; exact x0)).1
    rw [e] at this
    rcases hc with ⟨g1, g2⟩ | ⟨g1, g2⟩ <;> rcases this with q | q
    · exact absurd (q.symm.trans g1) y0
    · exact q.symm.trans g2
    · exact q.symm.trans g2
    · exact absurd (q.symm.trans g1) y0
  have sim : ∀ k, upI (tkP P x ch) k a ≠ 0 → ∃ j, upI P j a = upI (tkP P x ch) k a ∧ upI (tkP P x ch) k a ≠ x := by
    intro k
    induction k with
    | zero => intro _; exact ⟨0, rfl, ax⟩
    | succ k ih =>
      intro hk
      have y0 := upI_p k a a0 hk
      obtain ⟨j, e, yx⟩ := ih y0
      rw [upI_l y0] at hk ⊢
      generalize upI (tkP P x ch) k a = y at *
      have ty : T y ≠ 0 := by
        rw [← e, (upI_z hW j a ha (by rw [e]; exact y0)).2]; exact ha
      rw [tk_u P x y0] at hk ⊢
      have e1 : upI P (j + 1) a = P.2.2 y := by rw [upI_l (by rw [e]; exact y0), e]
      by_cases q : y = ch
      · rw [if_pos q] at hk ⊢
        have e2 : P.2.2 y = x := by rw [q]; exact chp (by rw [← q]; exact y0)
        refine ⟨j + 1 + 1, ?_, ux⟩
        rw [upI_l (by rw [e1, e2]; exact x0), e1, e2]
      · rw [if_neg q] at hk ⊢
        exact ⟨j + 1, e1, fun g => q (only y ty g)⟩
  intro k hk
  have y0 := upI_p k a a0 hk
  obtain ⟨j, e, yx⟩ := sim k y0
  rw [upI_l y0] at hk ⊢
  generalize upI (tkP P x ch) k a = y at *
  have ty : T y ≠ 0 := by
    rw [← e, (upI_z hW j a ha (by rw [e]; exact y0)).2]; exact ha
  rw [tk_u P x y0] at hk ⊢
  have e1 : upI P (j + 1) a = P.2.2 y := by rw [upI_l (by rw [e]; exact y0), e]
  by_cases q : y = ch
  · rw [if_pos q] at hk ⊢
    have e2 : P.2.2 y = x := by rw [q]; exact chp (by rw [← q]; exact y0)
    have e3 : upI P (j + 1 + 1) a = P.2.2 x := by rw [upI_l (by rw [e1, e2]; exact x0), e1, e2]
    have hh := h (j + 1) (by rw [e3]; exact hk)
    rw [e3, e1, e2] at hh
    obtain ⟨p1, p2⟩ := hW.up_lt hx hk
    have pc := hW.2.2 (P.2.2 x) (by rw [p2]; exact hx)
    have xc := ((hW.2.2 x hx).2.2.1 hk).1
    have bad : P.2.2 y ≠ P.2.2 x := by rw [e2]; exact Ne.symm ux
    rw [tk_l, tk_r]
    by_cases g : P.1 (P.2.2 x) = x
    · rw [if_pos ⟨hk, rfl, g⟩, if_neg (fun w => w.2.2 g)]
      refine ⟨fun _ => hh.1 g, fun w => absurd ?_ bad⟩
      have := (pc.2.1 (by rw [w]; exact y0)).1
      rw [w] at this
      exact this
    · rw [if_neg (fun w => g w.2.2), if_pos ⟨hk, rfl, g⟩]
      refine ⟨fun w => absurd ?_ bad, fun _ => hh.2 (xc.resolve_left g)⟩
      have := (pc.1 (by rw [w]; exact y0)).1
      rw [w] at this
      exact this
  · rw [if_neg q] at hk ⊢
    have hh := h j (by rw [e1]; exact hk)
    rw [e1, e] at hh
    rw [tk_l, tk_r]
    constructor
    · intro w
      split at w
      · exact absurd w.symm q
      · exact hh.1 w
    · intro w
      split at w
      · exact absurd w.symm q
      · exact hh.2 w
/-- the last node on the way to the right has the greatest key -/
theorem lR_top (hW : WF P T z) {ky : Nat → Int64} {κ : Nat} (κ0 : κ ≠ 0) (hO : ∀ a, T a = κ → OrK P ky a) : ∀ (f y : Nat), T y = κ → z y ≤ f → (∃ j, upI P j (lR P f y).1 = y) ∧ ∀ k a, T a = κ → upI P k a = y → a = (lR P f y).1 ∨ ky a < ky (lR P f y).1 := by
  intro f
  induction f with
  | zero =>
    intro y hy hz
    have := hW.pos (show T y ≠ 0 by rw [hy]; exact κ0)
    omega
  | succ f ih =>
    intro y hy hz
    have ty : T y ≠ 0 := by rw [hy]; exact κ0
    have y0 := hW.n0 ty
    obtain ⟨w1, w2, w3, w4, w5⟩ := hW.2.2 y ty
    have side : ∀ k a, T a = κ → upI P (k + 1) a = y → (P.1 y = upI P k a ∧ ky a < ky y) ∨ (P.2.1 y = upI P k a ∧ P.2.1 y ≠ 0) := by
      intro k a ha e
      have a0 := hW.n0 (show T a ≠ 0 by rw [ha]; exact κ0)
      have v0 := upI_p k a a0 (by rw [e]; exact y0)
      have e2 := upI_l v0
      rw [e] at e2
      have tv : T (upI P k a) ≠ 0 := by
        rw [(upI_z hW k a (by rw [ha]; exact κ0) v0).2, ha]; exact κ0
      have := ((hW.2.2 _ tv).2.2.1 (by rw [← e2]; exact y0)).1
      rw [← e2] at this
      have hh := hO a ha k (by rw [e]; exact y0)
      rw [e] at hh
      rcases this with g | g
      · exact Or.inl ⟨g, hh.1 g⟩
      · exact Or.inr ⟨g, by rw [g]; exact v0⟩
    by_cases r0 : P.2.1 y = 0
    · have e : lR P (f + 1) y = (y, 0) := by
        show (if P.2.1 y = 0 then (y, 0) else _) = _
        rw [if_pos r0]
      rw [e]
      refine ⟨⟨0, rfl⟩, fun k a ha ek => ?_⟩
      cases k with
      | zero => exact Or.inl ek
      | succ k =>
        rcases side k a ha ek with g | g
        · exact Or.inr g.2
        · exact absurd r0 g.2
    · have e : (lR P (f + 1) y).1 = (lR P f (P.2.1 y)).1 := by
        show (if P.2.1 y = 0 then (y, 0) else ((lR P f (P.2.1 y)).1, (lR P f (P.2.1 y)).2 + 1)).1 = _
        rw [if_neg r0]
      obtain ⟨u1', u2'⟩ := w2 r0
      rw [e]
      obtain ⟨⟨j, hj⟩, hg⟩ := ih (P.2.1 y) (u2'.trans hy) (by omega)
      have te := lR_mem hW f (P.2.1 y) (by rw [u2', hy]; exact κ0)
      rw [u2', hy] at te
      generalize (lR P f (P.2.1 y)).1 = e' at *
      have ej : upI P (j + 1) e' = y := by rw [upI_l (by rw [hj]; exact r0), hj, u1']
      have ge : ky y < ky e' := by
        have hh := (hO e' te j (by rw [ej]; exact y0)).2
        rw [ej, hj] at hh
        exact hh rfl
      refine ⟨⟨j + 1, ej⟩, fun k a ha ek => ?_⟩
      cases k with
      | zero =>
        have ek : a = y := ek
        rw [ek]; exact Or.inr ge
      | succ k =>
        rcases side k a ha ek with g | g
        · exact Or.inr (Int64.lt_trans g.2 ge)
        · exact hg k a ha g.1.symm
/-- the greatest key left of a node comes to the node -/
theorem OrK.mv (hW : WF P T z) (hT : TN T) {ky : Nat → Int64} {κ n e : Nat} (κ0 : κ ≠ 0) (hO : ∀ a, T a = κ → OrK P ky a) (hn : T n = κ) (hl : P.1 n ≠ 0) (he : (lR P 20003 (P.1 n)).1 = e) : T e = κ ∧ e ≠ n ∧ ∀ a, T a = κ → a ≠ e → OrK P (u1 ky n (ky e)) a := by
  have tn : T n ≠ 0 := by rw [hn]; exact κ0
  obtain ⟨l1, l2⟩ := (hW.2.2 n tn).1 hl
  have tl : T (P.1 n) ≠ 0 := by rw [l2]; exact tn
  have hz := hW.z_le hT.2 (Or.inr tl)
  obtain ⟨⟨j, hj⟩, hg⟩ := lR_top hW κ0 hO 20003 (P.1 n) (l2.trans hn) (by omega)
  have te := lR_mem hW 20003 (P.1 n) tl
  rw [l2, hn] at te
  rw [he] at hj hg te
  have n0 := hW.n0 tn
  have ej : upI P (j + 1) e = n := by rw [upI_l (by rw [hj]; exact hl), hj, l1]
  have zl := (upI_z hW (j + 1) e (by rw [te]; exact κ0) (by rw [ej]; exact n0)).1
  rw [ej] at zl
  have en : e ≠ n := fun q => by rw [q] at zl; omega
  have ke : ky e < ky n := by
    have hh := (hO e te j (by rw [ej]; exact n0)).1
    rw [ej, hj] at hh
    exact hh rfl
  refine ⟨te, en, fun a ha ae k hk => ?_⟩
  by_cases an : a = n
  · rw [an] at hk ⊢
    have zp := (upI_z hW (k + 1) n tn hk).1
    have pn : upI P (k + 1) n ≠ n := fun q => by rw [q] at zp; omega
    rw [u1_s, u1_o _ _ pn]
    refine ⟨fun w => Int64.lt_trans ke ((hO n hn k hk).1 w), fun w => ?_⟩
    have i1 : upI P (j + 1 + k) e = upI P k n := by rw [upI_add (j + 1) k e (by rw [ej]; exact n0), ej]
    have i2 : upI P (j + 1 + k + 1) e = upI P (k + 1) n := by rw [show j + 1 + k + 1 = (j + 1) + (k + 1) by omega, upI_add (j + 1) (k + 1) e (by rw [ej]; exact n0), ej]
    have hh := (hO e te (j + 1 + k) (by rw [i2]; exact hk)).2
    rw [i1, i2] at hh
    exact hh w
  · rw [u1_o _ _ an]
    have hh := hO a ha k hk
    by_cases q : upI P (k + 1) a = n
    · rw [q] at hh ⊢
      rw [u1_s]
      refine ⟨fun w => ?_, fun w => Int64.lt_trans ke (hh.2 w)⟩
      exact (hg k a ha w.symm).resolve_left ae
    · rw [u1_o _ _ q]
      exact hh
/-- sizes where nothing has changed -/
theorem WF.zfr {Q : PT} {S z' : Nat → Nat} (hW : WF P T z) (hT : TN T) (hQ : WF Q S z') (hS : TN S) {κ : Nat} (κ0 : κ ≠ 0) (h : ∀ b, T b = κ → S b ≠ 0 ∧ Q.1 b = P.1 b ∧ Q.2.1 b = P.2.1 b) {b : Nat} (hb : T b = κ) : z' b = z b := by
  have hWi : WF P (_root_.Jvm.Pilot.CStepPurseLaw_law_r8377_2c7bf5.ind T κ) z := WF.ind (l := P.1) (r := P.2.1) (u := P.2.2) (u' := P.2.2) hW κ0 (fun _ _ => rfl)
  have tb : T b ≠ 0 := by rw [hb]; exact κ0
  have z1 := hW.z_le hT.2 (Or.inr tb)
  have z2 := hQ.z_le hS.2 (Or.inr (h b hb).1)
  rw [← zF_eq hQ 20003 b (Or.inr (h b hb).1) (by omega), ← zF_eq hW 20003 b (Or.inr tb) (by omega), ← pdF_len (P := Q) 20003 b 0, ← pdF_len (P := P) 20003 b 0]
  rw [pd_cg hWi (fun a ha => (h a ((ind_ne κ0 a).mp ha)).2) 20003 b 0 (Or.inr ((ind_ne κ0 b).mpr hb))]
theorem WF.tk (hW : WF P T z) (hT : TN T) {x ch : Nat} (hx : T x ≠ 0) (hc : (P.1 x = 0 ∧ P.2.1 x = ch) ∨ (P.2.1 x = 0 ∧ P.1 x = ch)) : ∃ z', WF (tkP P x ch) (u1 T x 0) z' ∧ (∀ b, T b ≠ 0 → T b ≠ T x → z' b = z b) ∧ ∀ b, T b ≠ T x → (tkP P x ch).1 b = P.1 b ∧ (tkP P x ch).2.1 b = P.2.1 b ∧ (b ≠ 0 → (tkP P x ch).2.2 b = P.2.2 b) := by
  have x0 := hW.n0 hx
  have hT' : TN (u1 T x 0) := TN_u1 hT x0 (hT.2 x hx)
  have tch : ch ≠ 0 → T ch = T x ∧ z ch < z x := fun c0 => by
    rcases hc with ⟨-, g⟩ | ⟨-, g⟩
    · rw [← g] at c0 ⊢; exact ⟨((hW.2.2 x hx).2.1 c0).2, (hW.mu x hx).2 c0⟩
    · rw [← g] at c0 ⊢; exact ⟨((hW.2.2 x hx).1 c0).2, (hW.mu x hx).1 c0⟩
  have fr : ∀ b, T b ≠ T x → (tkP P x ch).1 b = P.1 b ∧ (tkP P x ch).2.1 b = P.2.1 b ∧ (b ≠ 0 → (tkP P x ch).2.2 b = P.2.2 b) := by
    intro b hb
    have bp : ¬ (P.2.2 x ≠ 0 ∧ b = P.2.2 x) := fun q => hb (by rw [q.2]; exact (hW.up_lt hx q.1).2)
    rw [tk_l, tk_r, if_neg (fun q => bp ⟨q.1, q.2.1⟩), if_neg (fun q => bp ⟨q.1, q.2.1⟩)]
    refine ⟨rfl, rfl, fun b0 => ?_⟩
    rw [tk_u P x b0, if_neg (fun q => hb (by rw [q]; exact (tch (by rw [← q]; exact b0)).1))]
  have ws := WS.tk (l := P.1) (r := P.2.1) (u := P.2.2) hW.ws hx hc
  have mu : MU (tkP P x ch) (u1 T x 0) z := by
    intro y hy
    have yx : y ≠ x := fun g => by rw [g, u1_s] at hy; exact hy rfl
    rw [u1_o _ _ yx] at hy
    rw [tk_l, tk_r]
    have up := hW.mu y hy
    constructor
    · split
      · rename_i g
        intro c0
        have := (hW.up_lt hx g.1).1
        have := (tch c0).2
        rw [g.2.1]; omega
      · exact up.1
    · split
      · rename_i g
        intro c0
        have := (hW.up_lt hx g.1).1
        have := (tch c0).2
        rw [g.2.1]; omega
      · exact up.2
  have wf := WF.of (B := 20002) ws hT' mu (fun y hy => by
    have yx : y ≠ x := fun g => by rw [g, u1_s] at hy; exact hy rfl
    rw [u1_o _ _ yx] at hy
    exact hW.z_le hT.2 (Or.inr hy))
  refine ⟨_, wf, fun b hb hne => ?_, fr⟩
  refine WF.zfr hW hT wf hT' hb (κ := T b) (fun y hy => ?_) rfl
  have yx : y ≠ x := fun g => hne (by rw [← hy, g])
  rw [u1_o _ _ yx]
  exact ⟨by rw [hy]; exact hb, (fr y (by rw [hy]; exact hne)).1, (fr y (by rw [hy]; exact hne)).2.1⟩
/-- a tree is hung to the right of another tree's root -/
theorem lk_ok {Q : PT} {z1 : Nat → Nat} (t1 : WF Q T z1) {κ κ2 e r : Nat} (κ0 : κ ≠ 0) (k20 : κ2 ≠ 0) (ne : κ ≠ κ2) (te : T e = κ) (q1 : Q.2.1 e = 0) (t5 : Q.2.2 e = 0) (hr : r ≠ 0 → T r = κ2 ∧ Q.2.2 r = 0) (hr0 : r = 0 → ∀ x, T x ≠ κ2) :
    WF (str Q e r) (fun x => if T x = κ2 then κ else T x) (u1 z1 e (z1 e + z1 r)) := by
  have te0 : T e ≠ 0 := by rw [te]; exact κ0
  have e0 := t1.n0 te0
  by_cases r0 : r = 0
  · have eL : (fun x => if T x = κ2 then κ else T x) = T := funext (fun x => if_neg (hr0 r0 x))
    have eZ : u1 z1 e (z1 e + z1 r) = z1 := by
      rw [r0, t1.2.1, Nat.add_zero, u1_id]
    rw [eL, eZ]
    refine t1.pt (fun b _ => ?_)
    unfold str
    rw [if_pos r0, r0]
    refine ⟨rfl, ?_, rfl⟩
    show u1 Q.2.1 e 0 b = _
    by_cases g : b = e
    · rw [g, u1_s, q1]
    · rw [u1_o _ _ g]
  · obtain ⟨r1, r2⟩ := hr r0
    have tr0 : T r ≠ 0 := by rw [r1]; exact k20
    have hrk : T r ≠ κ := by rw [r1]; exact Ne.symm ne
    have er : r ≠ e := fun g => hrk (by rw [g]; exact te)
    have ws := WS.lk (l := Q.1) (r := Q.2.1) (u := Q.2.2) t1.ws te0 q1 tr0 r2 (by rw [te]; exact hrk)
    have eS : str Q e r = (Q.1, u1 Q.2.1 e r, u1 Q.2.2 r e) := by unfold str; rw [if_neg r0]
    rw [r1, te] at ws
    rw [eS]
    refine ⟨ws.1, by rw [u1_o _ _ (Ne.symm e0)]; exact t1.2.1, fun x hx => ?_⟩
    obtain ⟨w1, w2, w3, w4⟩ := ws.2 x hx
    refine ⟨w1, w2, w3, w4, ?_⟩
    have tx : T x ≠ 0 := by
      intro g
      have hx : (if T x = κ2 then κ else T x) ≠ 0 := hx
      rw [if_neg (by rw [g]; exact Ne.symm k20), g] at hx
      exact hx rfl
    have x0 := t1.n0 tx
    obtain ⟨v1, v2, v3, v4, v5⟩ := t1.2.2 x tx
    have nl : Q.1 x ≠ e := fun g => by
      have := (v1 (by rw [g]; exact e0)).1
      rw [g, t5] at this
      exact x0 this.symm
    have nr : Q.2.1 x ≠ e := fun g => by
      have := (v2 (by rw [g]; exact e0)).1
      rw [g, t5] at this
      exact x0 this.symm
    show u1 z1 e _ x = 1 + u1 z1 e _ (Q.1 x) + u1 z1 e _ (u1 Q.2.1 e r x)
    rw [u1_o _ _ nl]
    by_cases g : x = e
    · rw [g, u1_s, u1_s, u1_o _ _ er]
      rw [g, q1, t1.2.1] at v5
      omega
    · rw [u1_o _ _ g, u1_o Q.2.1 _ g, u1_o _ _ nr]
      exact v5
end Tk
