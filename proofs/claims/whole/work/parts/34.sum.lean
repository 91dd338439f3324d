-- a walk goes through all nodes of a tree, each once; sums over them
theorem pd_hd {P : PT} {S z : Nat → Nat} (h : WF P S z) {f c d : Nat} (hc : S c ≠ 0) (hf : z c ≤ f) : c ∈ (pdF f P c d).map Prod.fst := by
  rw [pdF_eq h hc hf, List.map_cons]
  exact List.mem_cons_self
theorem pd_ch {P : PT} {S z : Nat → Nat} (h : WF P S z) : ∀ (f a d : Nat), LZ S a → z a ≤ f → ∀ x, x ∈ (pdF f P a d).map Prod.fst → (P.1 x ≠ 0 → P.1 x ∈ (pdF f P a d).map Prod.fst) ∧ (P.2.1 x ≠ 0 → P.2.1 x ∈ (pdF f P a d).map Prod.fst) := by
  intro f
  induction f with
  | zero => intro a d ha hz x hx; cases hx
  | succ f ih =>
    intro a d ha hz x hx
    rcases ha with e | e
    · subst e; rw [pdF_0] at hx; cases hx
    · have hw := h.2.2 a e
      have hw5 := hw.2.2.2.2
      rw [show pdF (f + 1) P a d = if a = 0 then [] else (a, d) :: (pdF f P (P.1 a) (d + 1) ++ pdF f P (P.2.1 a) (d + 1)) from rfl, if_neg (h.n0 e), List.map_cons, List.map_append, List.mem_cons, List.mem_append] at hx ⊢
      rw [List.mem_cons, List.mem_append]
      rcases hx with q | q | q
      · subst q
        refine ⟨fun c0 => Or.inr (Or.inl (pd_hd h ?_ (by omega))), fun c0 => Or.inr (Or.inr (pd_hd h ?_ (by omega)))⟩
        · rw [(hw.1 c0).2]; exact e
        · rw [(hw.2.1 c0).2]; exact e
      · obtain ⟨i1, i2⟩ := ih _ _ (h.lzl e) (by omega) x q
        exact ⟨fun c0 => Or.inr (Or.inl (i1 c0)), fun c0 => Or.inr (Or.inl (i2 c0))⟩
      · obtain ⟨i1, i2⟩ := ih _ _ (h.lzr e) (by omega) x q
        exact ⟨fun c0 => Or.inr (Or.inr (i1 c0)), fun c0 => Or.inr (Or.inr (i2 c0))⟩
theorem pd_all {P : PT} {S z : Nat → Nat} (h : WF P S z) {r f d B : Nat} (hr : S r ≠ 0) (hf : z r ≤ f) (hB : ∀ x, S x ≠ 0 → z x ≤ B) (hu : ∀ x, S x = S r → P.2.2 x = 0 → x = r) : ∀ x, S x = S r → x ∈ (pdF f P r d).map Prod.fst := by
  have key : ∀ (k x : Nat), S x = S r → B ≤ z x + k → x ∈ (pdF f P r d).map Prod.fst := by
    intro k
    induction k with
    | zero =>
      intro x hx hk
      have hS : S x ≠ 0 := by rw [hx]; exact hr
      by_cases u0 : P.2.2 x = 0
      · rw [hu x hx u0]; exact pd_hd h hr hf
      · obtain ⟨a1, a2⟩ := h.up_lt hS u0
        have := hB _ (by rw [a2]; exact hS)
        omega
    | succ k ih =>
      intro x hx hk
      have hS : S x ≠ 0 := by rw [hx]; exact hr
      by_cases u0 : P.2.2 x = 0
      · rw [hu x hx u0]; exact pd_hd h hr hf
      · obtain ⟨a1, a2⟩ := h.up_lt hS u0
        have hin := ih (P.2.2 x) (by rw [a2]; exact hx) (by omega)
        obtain ⟨c1, c2⟩ := pd_ch h f r d (Or.inr hr) hf _ hin
        rcases ((h.2.2 x hS).2.2.1 u0).1 with q | q
        · have := c1 (by rw [q]; exact h.n0 hS)
          rw [q] at this; exact this
        · have := c2 (by rw [q]; exact h.n0 hS)
          rw [q] at this; exact this
  intro x hx
  exact key B x hx (by omega)
/-- no more nodes than places -/
theorem WF.z_le {P : PT} {S z : Nat → Nat} (h : WF P S z) (hN : ∀ a, S a ≠ 0 → a ≤ 20002) {a : Nat} (ha : LZ S a) : z a ≤ 20002 := by
  have e1 := pdF_len (P := P) (z a) a 0
  rw [zF_eq h (z a) a ha (Nat.le_refl _)] at e1
  have hsub : (pdF (z a) P a 0).map Prod.fst ⊆ List.range' 1 20002 := by
    intro x hx
    obtain ⟨i0, i1, -⟩ := pd_up h (z a) a 0 ha (Nat.le_refl _) x hx
    have hSx : S x ≠ 0 := by
      rw [i1]
      rcases ha with q | q
      · exact absurd q i0
      · exact q
    have := hN x hSx
    have n0 := h.n0 hSx
    rw [List.mem_range'_1]
    omega
  have := (pd_nodup h (z a) a 0 ha (Nat.le_refl _)).length_le_of_subset hsub
  rw [List.length_map, e1, List.length_range'] at this
  exact this
/-- the sizes, from the picture alone -/
def zf (P : PT) (a : Nat) : Nat := zF 20003 P a
theorem WF.can {P : PT} {S z : Nat → Nat} (h : WF P S z) (hN : ∀ a, S a ≠ 0 → a ≤ 20002) {a : Nat} (ha : LZ S a) : zf P a = z a := zF_eq h 20003 a ha (by have := h.z_le hN ha; omega)
theorem WF.congr {P : PT} {S z z' : Nat → Nat} (h : WF P S z) (hz : ∀ a, LZ S a → z' a = z a) : WF P S z' := by
  refine ⟨h.1, by rw [hz 0 (Or.inl rfl)]; exact h.2.1, fun a ha => ?_⟩
  obtain ⟨w1, w2, w3, w4, w5⟩ := h.2.2 a ha
  exact ⟨w1, w2, w3, w4, by rw [hz a (Or.inr ha), hz _ (h.lzl ha), hz _ (h.lzr ha)]; exact w5⟩
theorem WF.zf {P : PT} {S z : Nat → Nat} (h : WF P S z) (hN : ∀ a, S a ≠ 0 → a ≤ 20002) : WF P S (zf P) := h.congr (fun _ ha => h.can hN ha)
-- sums
def Ms (T : Nat → Nat) (s : Nat) : List Nat := (List.range 20003).filter (fun a => decide (T a = s))
def Sm (T : Nat → Nat) (s : Nat) (f : Nat → Nat) : Nat := ((Ms T s).map f).sum
def TN (T : Nat → Nat) : Prop := T 0 = 0 ∧ ∀ a, T a ≠ 0 → a ≤ 20002
theorem Ms_mem {T : Nat → Nat} (hT : TN T) {s : Nat} (hs : s ≠ 0) (a : Nat) : a ∈ Ms T s ↔ T a = s := by
  unfold Ms
  rw [List.mem_filter, List.mem_range, decide_eq_true_eq]
  constructor
  · exact fun q => q.2
  · intro q
    have := hT.2 a (by rw [q]; exact hs)
    exact ⟨by omega, q⟩
theorem Ms_nodup (T : Nat → Nat) (s : Nat) : (Ms T s).Nodup := List.Pairwise.filter _ List.nodup_range
theorem perm_sum {l m : List Nat} (h : l.Perm m) : l.sum = m.sum := by
  induction h with
  | nil => rfl
  | cons x _ ih => simp only [List.sum_cons, ih]
  | swap x y l => simp only [List.sum_cons]; omega
  | trans _ _ ih1 ih2 => exact ih1.trans ih2
theorem Sm_perm {T : Nat → Nat} (hT : TN T) {s : Nat} (hs : s ≠ 0) {l : List Nat} (hl : l.Nodup) (hm : ∀ x, x ∈ l ↔ T x = s) : l.Perm (Ms T s) := by
  rw [List.perm_ext_iff_of_nodup hl (Ms_nodup T s)]
  intro a
  rw [hm, Ms_mem hT hs]
theorem Sm_of {T : Nat → Nat} (hT : TN T) {s : Nat} (hs : s ≠ 0) {l : List Nat} (hl : l.Nodup) (hm : ∀ x, x ∈ l ↔ T x = s) (f : Nat → Nat) : Sm T s f = (l.map f).sum := (perm_sum ((Sm_perm hT hs hl hm).map f)).symm
theorem sum_one (l : List Nat) : (l.map (fun _ => 1)).sum = l.length := by
  induction l with
  | nil => rfl
  | cons a l ih => simp only [List.map_cons, List.sum_cons, ih, List.length_cons]; omega
theorem Sm_one {T : Nat → Nat} (hT : TN T) {s : Nat} (hs : s ≠ 0) {l : List Nat} (hl : l.Nodup) (hm : ∀ x, x ∈ l ↔ T x = s) : Sm T s (fun _ => 1) = l.length := by
  rw [Sm_of hT hs hl hm, sum_one]
theorem Sm_congr {T : Nat → Nat} (hT : TN T) {s : Nat} (hs : s ≠ 0) {f g : Nat → Nat} (h : ∀ a, T a = s → f a = g a) : Sm T s f = Sm T s g := by
  unfold Sm
  rw [List.map_congr_left (fun a ha => h a ((Ms_mem hT hs a).mp ha))]
theorem Sm_T {T T' : Nat → Nat} {s s' : Nat} (h : ∀ a, T' a = s' ↔ T a = s) (f : Nat → Nat) : Sm T' s' f = Sm T s f := by
  unfold Sm Ms
  have : (fun a => decide (T' a = s')) = fun a => decide (T a = s) := by
    funext a
    rw [decide_eq_decide]
    exact h a
  rw [this]
theorem Sm_upd {T : Nat → Nat} (hT : TN T) {s : Nat} (hs : s ≠ 0) (f : Nat → Nat) {a : Nat} (v : Nat) (ha : T a = s) : Sm T s (u1 f a v) + f a = Sm T s f + v := sum_upd f (Ms T s) (Ms_nodup T s) a v ((Ms_mem hT hs a).mpr ha)
theorem u1_s {α : Type} (f : Nat → α) (a : Nat) (v : α) : u1 f a v a = v := by unfold u1; rw [if_pos rfl]
theorem u1_o {α : Type} (f : Nat → α) {a x : Nat} (v : α) (h : x ≠ a) : u1 f a v x = f x := by unfold u1; rw [if_neg h]
/-- one more -/
theorem Sm_ins {T : Nat → Nat} (hT : TN T) {s : Nat} (hs : s ≠ 0) (f : Nat → Nat) {c : Nat} (hc : T c = 0) (c0 : c ≠ 0) (c2 : c ≤ 20002) : Sm (u1 T c s) s f = f c + Sm T s f := by
  have hT' : TN (u1 T c s) := by
    refine ⟨by rw [u1_o _ _ (Ne.symm c0)]; exact hT.1, fun a ha => ?_⟩
    by_cases e : a = c
    · rw [e]; exact c2
    · rw [u1_o _ _ e] at ha; exact hT.2 a ha
  rw [Sm_of hT' hs (l := c :: Ms T s)]
  · rw [List.map_cons, List.sum_cons]; rfl
  · rw [List.nodup_cons]
    exact ⟨fun q => hs (by rw [← (Ms_mem hT hs c).mp q, hc]), Ms_nodup T s⟩
  · intro x
    rw [List.mem_cons, Ms_mem hT hs]
    by_cases e : x = c
    · rw [e, u1_s]; exact ⟨fun _ => rfl, fun _ => Or.inl rfl⟩
    · rw [u1_o _ _ e]; exact ⟨fun q => q.resolve_left e, fun q => Or.inr q⟩
theorem TN_u1 {T : Nat → Nat} (hT : TN T) {c s : Nat} (c0 : c ≠ 0) (c2 : c ≤ 20002) : TN (u1 T c s) := by
  refine ⟨by rw [u1_o _ _ (Ne.symm c0)]; exact hT.1, fun a ha => ?_⟩
  by_cases e : a = c
  · rw [e]; exact c2
  · rw [u1_o _ _ e] at ha; exact hT.2 a ha
/-- one less -/
theorem Sm_del {T : Nat → Nat} (hT : TN T) {s : Nat} (hs : s ≠ 0) (f : Nat → Nat) {c : Nat} (hc : T c = s) : Sm T s f = f c + Sm (u1 T c 0) s f := by
  have c0 : c ≠ 0 := fun q => hs (by rw [← hc, q]; exact hT.1)
  have c2 := hT.2 c (by rw [hc]; exact hs)
  have hT' : TN (u1 T c 0) := TN_u1 hT c0 c2
  rw [Sm_of hT hs (l := c :: Ms (u1 T c 0) s)]
  · rw [List.map_cons, List.sum_cons]; rfl
  · rw [List.nodup_cons]
    refine ⟨fun q => ?_, Ms_nodup _ s⟩
    have := (Ms_mem hT' hs c).mp q
    rw [u1_s] at this
    exact hs this.symm
  · intro x
    rw [List.mem_cons, Ms_mem hT' hs]
    by_cases e : x = c
    · rw [e, u1_s]; exact ⟨fun _ => hc, fun _ => Or.inl rfl⟩
    · rw [u1_o _ _ e]; exact ⟨fun q => q.resolve_left e, fun q => Or.inr q⟩
/-- two in one -/
theorem Sm_two {T T' : Nat → Nat} (hT : TN T) {s s1 s2 : Nat} (h1 : s1 ≠ 0) (h2 : s2 ≠ 0) (h12 : s1 ≠ s2) (hs : s ≠ 0) (hT' : TN T') (h : ∀ a, T' a = s ↔ (T a = s1 ∨ T a = s2)) (f : Nat → Nat) : Sm T' s f = Sm T s1 f + Sm T s2 f := by
  rw [Sm_of hT' hs (l := Ms T s1 ++ Ms T s2)]
  · rw [List.map_append, List.sum_append_nat]; rfl
  · rw [List.nodup_append]
    refine ⟨Ms_nodup _ _, Ms_nodup _ _, fun a ha b hb e => ?_⟩
    subst e
    exact h12 (((Ms_mem hT h1 a).mp ha).symm.trans ((Ms_mem hT h2 a).mp hb))
  · intro x
    rw [List.mem_append, Ms_mem hT h1, Ms_mem hT h2, h]
theorem Sm_le {T : Nat → Nat} {s : Nat} {f g : Nat → Nat} (h : ∀ a, T a = s → f a ≤ g a) : Sm T s f ≤ Sm T s g := by
  unfold Sm
  have : ∀ l : List Nat, (∀ a ∈ l, f a ≤ g a) → (l.map f).sum ≤ (l.map g).sum := by
    intro l
    induction l with
    | nil => intro _; exact Nat.le_refl _
    | cons a l ih =>
      intro q
      simp only [List.map_cons, List.sum_cons]
      have := q a List.mem_cons_self
      have := ih (fun b hb => q b (List.mem_cons_of_mem _ hb))
      omega
  refine this _ (fun a ha => h a ?_)
  unfold Ms at ha
  rw [List.mem_filter, decide_eq_true_eq] at ha
  exact ha.2
/-- the walk from the root -/
theorem Sm_pd {P : PT} {T z : Nat → Nat} (h : WF P T z) (hT : TN T) {r f d : Nat} (hr : T r ≠ 0) (hf : z r ≤ f) (hu : ∀ x, T x = T r → P.2.2 x = 0 → x = r) (g : Nat → Nat) : Sm T (T r) g = (((pdF f P r d).map Prod.fst).map g).sum := by
  refine Sm_of hT hr (pd_nodup h f r d (Or.inr hr) hf) (fun x => ⟨fun q => (pd_up h f r d (Or.inr hr) hf x q).2.1, fun q => ?_⟩) g
  exact pd_all h hr hf (B := 20002) (fun x hx => h.z_le hT.2 (Or.inr hx)) hu x q
theorem Sm_root {P : PT} {T z : Nat → Nat} (h : WF P T z) (hT : TN T) {r : Nat} (hr : T r ≠ 0) (hu : ∀ x, T x = T r → P.2.2 x = 0 → x = r) : Sm T (T r) (fun _ => 1) = z r := by
  rw [Sm_pd h hT (f := z r) (d := 0) hr (Nat.le_refl _) hu, sum_one, List.length_map, pdF_len, zF_eq h _ _ (Or.inr hr) (Nat.le_refl _)]
theorem Sm_none {T : Nat → Nat} {s : Nat} (h : ∀ a, T a ≠ s) (f : Nat → Nat) : Sm T s f = 0 := by
  unfold Sm Ms
  rw [List.filter_eq_nil_iff.mpr (fun a _ => by rw [decide_eq_true_eq]; exact h a)]
  rfl
