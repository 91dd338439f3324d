-- THE INVARIANT: class and reference, by numbers
def JB (B : AH) (d : DS) : Prop := CB B ∧ MB B ∧ Bd B d ∧ (∀ x, d.nid x ≠ 0 → tg B x = 4) ∧ (∀ x, d.iid x ≠ 0 → tg B x = 8) ∧ DW d
/-- structures -/
def JS (m : MS) (c : CS) (d : DS) (B : AH) : Prop := m.K = c.K ∧ AR c ∧ (∀ s, d.sid (d.sa (s + 1)) = s + 1 ↔ s < m.K) ∧ ∀ s, s < m.K → c.kd s = m.kd s ∧ m.kd s ≤ 5 ∧ tg B (d.sa (s + 1)) = tgS (m.kd s)
/-- pictures -/
def JT (m : MS) (c : CS) (T z : Nat → Nat) : Prop := WF c.P T z ∧ TN T ∧ ∀ a, T a ≠ 0 → T a ≤ m.K ∧ m.kd (T a - 1) ≤ 3
def JR (m : MS) (c : CS) (T : Nat → Nat) : Prop := ∀ s, s < m.K → (m.kd s ≤ 3 → m.rt s = c.ro s ∧ m.pl s = 0) ∧ (4 ≤ m.kd s → c.ro s = 0) ∧ (c.ro s ≠ 0 → T (c.ro s) = s + 1 ∧ c.P.2.2 (c.ro s) = 0) ∧ ∀ a, T a = s + 1 → c.P.2.2 a = 0 → a = c.ro s
def JP (m : MS) (c : CS) (T : Nat → Nat) : Prop := BP m.P ∧ ∀ a, T a ≠ 0 → m.P.1 a = c.P.1 a ∧ m.P.2.1 a = c.P.2.1 a ∧ m.ky a = c.ck a ∧ (m.kd (T a - 1) ≤ 1 → m.P.2.2 a = c.P.2.2 a)
/-- which numbers are of objects -/
def JD (d : DS) (T ow : Nat → Nat) : Prop := (∀ a, a ≠ 0 → (d.nid (d.ph a) = a ↔ T a ≠ 0)) ∧ ∀ i, i ≠ 0 → (d.iid (d.vh i) = i ↔ (ow i ≠ 0 ∧ ow i ≤ 20002))
/-- values -/
def JV (m : MS) (c : CS) (T : Nat → Nat) (V : Nat → List Nat) (ow : Nat → Nat) : Prop := ∀ a, T a ≠ 0 → V a ≠ [] ∧ Chn m.nx (m.fV a) (V a) ∧ c.f1 a = m.fV a ∧ m.lV a = (V a).getLastD 0 ∧ c.l1 a = m.lV a ∧ c.nv a = (V a).length ∧ (V a).Nodup ∧ ∀ i, i ∈ V a → ow i = a ∧ c.vn i = (m.it i).toInt32 ∧ c.vx i = m.nx i
/-- items: which are free, whose the others are -/
def JI (m : MS) (T : Nat → Nat) (V : Nat → List Nat) (FI : List Nat) (ow : Nat → Nat) : Prop := Chn m.nx m.fi FI ∧ FI.Nodup ∧ (∀ i, i ∈ FI → ow i = 50000) ∧ m.im = m.E + FI.length ∧ m.im ≤ 20000 ∧ (∀ i, ow i ≠ 0 → 1 ≤ i ∧ i ≤ m.im) ∧ ∀ i, ow i ≠ 0 → ow i ≤ 20002 → T (ow i) ≠ 0 ∧ i ∈ V (ow i)
/-- free nodes -/
def JF (m : MS) (T : Nat → Nat) (FN : List Nat) : Prop := Chn m.P.1 m.fn FN ∧ FN.Nodup ∧ (∀ a, a ∈ FN → T a = 0 ∧ a ≤ m.nm) ∧ (∀ a, 1 ≤ a → a ≤ m.nm → T a ≠ 0 ∨ a ∈ FN) ∧ (∀ a, T a ≠ 0 → a ≤ m.nm) ∧ m.nm ≤ 20000
/-- rows -/
def JWs (m : MS) (c : CS) (B : AH) (R : Nat → List Nat) (ow : Nat → Nat) (s : Nat) : Prop := Chn m.nx (m.rt s) (R s) ∧ (R s).Nodup ∧ (∀ i, i ∈ R s → ow i = 30000 + s) ∧ m.nu s = (R s).length ∧ c.he s = m.nu s ∧ (m.pl s = ln B (c.pa s) ∧ tg B (c.pa s) = 21 ∧ 32 < c.pa s ∧ c.pa s ≤ nn B) ∧ (m.nu s ≤ m.pl s ∧ 4 ≤ m.pl s ∧ m.pl s ≤ 40000) ∧ ∀ i, i < m.nu s → eL B (c.pa s) i = m.it ((R s).getD (m.nu s - 1 - i) 0)
def JW (m : MS) (c : CS) (B : AH) (R : Nat → List Nat) (ow : Nat → Nat) : Prop := (∀ s, s < m.K → 4 ≤ m.kd s → JWs m c B R ow s) ∧ ∀ s t, s < m.K → t < m.K → 4 ≤ m.kd s → 4 ≤ m.kd t → c.pa s = c.pa t → s = t
/-- which came first, in heaps -/
def JH (m : MS) (c : CS) (T : Nat → Nat) : Prop := (∀ a, m.cs a ≤ m.se) ∧ (∀ a, T a ≠ 0 → c.cc a ≤ c.cn) ∧ (∀ a, T a ≠ 0 → 2 ≤ m.kd (T a - 1) → m.cs a < m.se ∧ c.cc a < c.cn) ∧ ∀ a e, T a ≠ 0 → T e ≠ 0 → 2 ≤ m.kd (T a - 1) → 2 ≤ m.kd (T e - 1) → (m.cs a < m.cs e ↔ c.cc a < c.cc e)
/-- the class's sums and sizes -/
def JZ (m : MS) (c : CS) (T z : Nat → Nat) (V : Nat → List Nat) : Prop := (∀ s, s < m.K → (m.kd s ≤ 3 → c.he s = Sm T (s + 1) (fun _ => 1)) ∧ (m.kd s ≤ 1 → c.vs s = Sm T (s + 1) (fun a => (V a).length)) ∧ (m.kd s = 1 → c.lg s = Sm T (s + 1) (fun a => Nat.log2 (z a))) ∧ (2 ≤ m.kd s → m.kd s ≤ 3 → c.hy s = Sm T (s + 1) (hv c.P z))) ∧ (∀ a, T a ≠ 0 → 1 ≤ m.kd (T a - 1) → c.cz a = z a) ∧ ∀ a, T a ≠ 0 → 2 ≤ m.kd (T a - 1) → (V a).length = 1
/-- keys in order along the ways up -/
def OrK (P : PT) (ky : Nat → Int64) (a : Nat) : Prop := ∀ k, upI P (k + 1) a ≠ 0 → (P.1 (upI P (k + 1) a) = upI P k a → ky a < ky (upI P (k + 1) a)) ∧ (P.2.1 (upI P (k + 1) a) = upI P k a → ky (upI P (k + 1) a) < ky a)
/-- t is the nearest node above from which the way went left -/
def Lft (P : PT) (ky : Nat → Int64) (l t : Nat) : Prop := ∀ k, upI P (k + 1) l ≠ 0 → P.1 (upI P (k + 1) l) = upI P k l → t ≠ 0 ∧ ky t ≤ ky (upI P (k + 1) l)
/-- where the latest way ended -/
def JLs (c : CS) (d : DS) (T : Nat → Nat) (s : Nat) : Prop := c.la s ≠ 0 → T (c.la s) = s + 1 ∧ upI c.P (c.dp s) (c.la s) = c.ro s ∧ ∃ t, c.tl s = d.ph t ∧ (t = 0 ∨ T t = s + 1) ∧ Lft c.P c.ck (c.la s) t
def JL (m : MS) (c : CS) (d : DS) (T : Nat → Nat) : Prop := (∀ s, s < m.K → m.kd s ≠ 0 → c.la s = 0) ∧ (∀ s, s < m.K → m.kd s = 0 → JLs c d T s) ∧ ∀ a, T a ≠ 0 → m.kd (T a - 1) = 0 → OrK c.P c.ck a
def JJ (m : MS) (c : CS) (d : DS) (B : AH) (T z : Nat → Nat) (V R : Nat → List Nat) (FN FI : List Nat) (ow : Nat → Nat) : Prop :=
  JB B d ∧ JS m c d B ∧ JT m c T z ∧ JR m c T ∧ JP m c T ∧ JD d T ow ∧ JV m c T V ow ∧ JI m T V FI ow ∧ JF m T FN ∧ JW m c B R ow ∧ JH m c T ∧ JZ m c T z V ∧ JL m c d T
/-- accounts -/
def JA (m : MS) (c : CS) : Prop := (∀ s, s < m.K → c.pu s = (m.pu s).toInt32 ∧ c.st s = (m.st s).toInt32) ∧ (c.fk = m.fk ∧ c.fv = m.fv ∧ c.E = m.E ∧ m.se ≤ m.N ∧ c.cn ≤ m.N) ∧ (c.N = m.N ∧ m.N ≤ 20000 ∧ c.rO = m.rO ∧ c.rP = m.rP ∧ c.rT = m.rT ∧ c.rQ = m.rQ) ∧ ∃ t : Nat → Nat, ∀ i, i < m.N → m.rT i = nI (t i) ∧ t i ≤ 100000
/-- room -/
def rwP (m : MS) : Nat := ((List.range m.K).map (fun s => if 4 ≤ m.kd s then prow (m.kd s) (m.nu s) (m.pl s) else 0)).sum
def JQ (B : AH) (m : MS) (i : Nat) : Prop := nn B ≤ 100 + 4 * m.N + 10 * i ∧ sl B + 2 * rwP m ≤ 1000000 + 20 * m.N + 200 * i
def Inv (i : Nat) (B : AH) (m : MS) (c : CS) (d : DS) : Prop := ml B m = B ∧ JA m c ∧ JQ B m i ∧ ∃ (T z : Nat → Nat) (V R : Nat → List Nat) (FN FI : List Nat) (ow : Nat → Nat), JJ m c d B T z V R FN FI ow
-- one picture for the other
theorem WF.pt {P Q : PT} {T z : Nat → Nat} (h : WF P T z) (e : ∀ a, T a ≠ 0 → Q.1 a = P.1 a ∧ Q.2.1 a = P.2.1 a ∧ Q.2.2 a = P.2.2 a) : WF Q T z := by
  refine ⟨h.1, h.2.1, fun n hn => ?_⟩
  obtain ⟨w1, w2, w3, w4, w5⟩ := h.2.2 n hn
  obtain ⟨e1, e2, e3⟩ := e n hn
  refine ⟨?_, ?_, ?_, ?_, ?_⟩
  · rw [e1]
    intro l0
    obtain ⟨a1, a2⟩ := w1 l0
    rw [(e _ (by rw [a2]; exact hn)).2.2]
    exact ⟨a1, a2⟩
  · rw [e2]
    intro l0
    obtain ⟨a1, a2⟩ := w2 l0
    rw [(e _ (by rw [a2]; exact hn)).2.2]
    exact ⟨a1, a2⟩
  · rw [e3]
    intro u0
    obtain ⟨a1, a2⟩ := w3 u0
    rw [(e _ (by rw [a2]; exact hn)).1, (e _ (by rw [a2]; exact hn)).2.1]
    exact ⟨a1, a2⟩
  · rw [e1, e2]; exact w4
  · rw [e1, e2]; exact w5
theorem gT_cg {ky ky' : Nat → Int64} {P Q : PT} {T z : Nat → Nat} (hW : WF Q T z) (h : ∀ a, T a ≠ 0 → P.1 a = Q.1 a ∧ P.2.1 a = Q.2.1 a ∧ ky a = ky' a) (k : Int64) : ∀ (f n : Nat), LZ T n → gT ky P k f n = gT ky' Q k f n := by
  intro f
  induction f with
  | zero => intro n _; rfl
  | succ f ih =>
    intro n hn
    by_cases n0 : n = 0
    · subst n0; simp only [gT, if_true]
    · have t := hn.resolve_left n0
      obtain ⟨e1, e2, e3⟩ := h n t
      have := ih (if k < ky' n then Q.1 n else Q.2.1 n) (by split; exact hW.lzl t; exact hW.lzr t)
      simp only [gT, e1, e2, e3, this]
theorem lR_cg {P Q : PT} {T z : Nat → Nat} (hW : WF Q T z) (h : ∀ a, T a ≠ 0 → P.1 a = Q.1 a ∧ P.2.1 a = Q.2.1 a) : ∀ (f n : Nat), T n ≠ 0 → lR P f n = lR Q f n := by
  intro f
  induction f with
  | zero => intro n _; rfl
  | succ f ih =>
    intro n t
    by_cases r0 : Q.2.1 n = 0
    · simp only [lR, (h n t).2, r0, if_true]
    · have := ih (Q.2.1 n) ((hW.lzr t).resolve_left r0)
      simp only [lR, (h n t).2, this]
theorem lL_cg {P Q : PT} {T z : Nat → Nat} (hW : WF Q T z) (h : ∀ a, T a ≠ 0 → P.1 a = Q.1 a ∧ P.2.1 a = Q.2.1 a) : ∀ (f n : Nat), T n ≠ 0 → lL P f n = lL Q f n := by
  intro f
  induction f with
  | zero => intro n _; rfl
  | succ f ih =>
    intro n t
    by_cases r0 : Q.1 n = 0
    · simp only [lL, (h n t).1, r0, if_true]
    · have := ih (Q.1 n) ((hW.lzl t).resolve_left r0)
      simp only [lL, (h n t).1, this]
theorem gB_cg {ky ky' : Nat → Int64} {P Q : PT} {T z : Nat → Nat} (hW : WF Q T z) (h : ∀ a, T a ≠ 0 → P.1 a = Q.1 a ∧ P.2.1 a = Q.2.1 a ∧ ky a = ky' a) (k : Int64) (ab : Bool) : ∀ (f n l b : Nat), LZ T n → gB ky P k ab f n l b = gB ky' Q k ab f n l b := by
  intro f
  induction f with
  | zero => intro n l b _; rfl
  | succ f ih =>
    intro n l b hn
    by_cases n0 : n = 0
    · subst n0; simp only [gB, if_true]
    · have t := hn.resolve_left n0
      obtain ⟨e1, e2, e3⟩ := h n t
      have := ih (if tR ab (ky' n) k then Q.2.1 n else Q.1 n) n (if tR ab (ky' n) k = ab then b else n) (by split; exact hW.lzr t; exact hW.lzl t)
      simp only [gB, e1, e2, e3, this]
theorem pd_cg {P Q : PT} {T z : Nat → Nat} (hW : WF Q T z) (h : ∀ a, T a ≠ 0 → P.1 a = Q.1 a ∧ P.2.1 a = Q.2.1 a) : ∀ (f n e : Nat), LZ T n → pdF f P n e = pdF f Q n e := by
  intro f
  induction f with
  | zero => intro n e _; rfl
  | succ f ih =>
    intro n e hn
    by_cases n0 : n = 0
    · subst n0; simp only [pdF, if_true]
    · have t := hn.resolve_left n0
      simp only [pdF, (h n t).1, (h n t).2, ih _ (e + 1) (hW.lzl t), ih _ (e + 1) (hW.lzr t)]
theorem mwP_cg {fs fs' : Nat → Nat → Bool} {P Q : PT} {T z : Nat → Nat} (hW : WF Q T z) {κ : Nat} (κ0 : κ ≠ 0) (h : ∀ a, T a = κ → P.2.1 a = Q.2.1 a) (hf : ∀ a e, T a = κ → T e = κ → fs a e = fs' a e) : ∀ (f a b : Nat), (a ≠ 0 → T a = κ) → (b ≠ 0 → T b = κ) → mwP fs P f a b = mwP fs' Q f a b := by
  intro f
  induction f with
  | zero => intro a b _ _; rfl
  | succ f ih =>
    intro a b ha hb
    by_cases g : a = 0 ∨ b = 0
    · simp only [mwP, g, if_true]
    · have a1 := ha (fun q => g (Or.inl q))
      have b1 := hb (fun q => g (Or.inr q))
      have ee := hf a b a1 b1
      have tw : T (if fs' a b then a else b) = κ := by split <;> assumption
      have to : T (if fs' a b then b else a) = κ := by split <;> assumption
      have := ih (Q.2.1 (if fs' a b then a else b)) (if fs' a b then b else a) (fun q => by
        have w := (hW.lzr (a := if fs' a b then a else b) (by rw [tw]; exact κ0)).resolve_left q
        exact ((hW.2.2 _ (by rw [tw]; exact κ0)).2.1 q).2.trans tw) (fun _ => to)
      simp only [mwP, g, if_false, ee, h _ tw, this]
-- no more than there is room for
theorem nd_le {l : List Nat} {n : Nat} (hl : l.Nodup) (h : ∀ x, x ∈ l → 1 ≤ x ∧ x ≤ n) : l.length ≤ n := by
  have hsub : l ⊆ List.range' 1 n := by
    intro x hx
    have := h x hx
    rw [List.mem_range'_1]
    omega
  have := hl.length_le_of_subset hsub
  rwa [List.length_range'] at this
