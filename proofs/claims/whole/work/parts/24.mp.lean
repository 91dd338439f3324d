-- THE REFERENCE: its object stands at 8, its arrays from 9 on; node numbers from 1 on (0: none) stand in its arrays as en
def en (x : Nat) : Int32 := nI x - 1
theorem en_0 : en 0 = -1 := by decide +kernel
theorem en_S (k : Nat) : en (k + 1) = nI k := nI_pred k
theorem en_of {x : Nat} (h : 1 ≤ x) : en x = nI (x - 1) := by
  obtain ⟨k, rfl⟩ : ∃ k, x = k + 1 := ⟨x - 1, by omega⟩
  rw [en_S]
  rfl
theorem nI_m1 {j : Nat} (h : j < 2 ^ 31) : ¬ nI j = (-1 : Int32) := by
  intro z
  have h1 := congrArg Int32.toInt z
  rw [nI_toInt h] at h1
  have h2 : (-1 : Int32).toInt = -1 := by decide +kernel
  omega
theorem en_m1 {x : Nat} (h : x < 2 ^ 31) : en x = (-1 : Int32) ↔ x = 0 := by
  cases x with
  | zero => exact ⟨fun _ => rfl, fun _ => en_0⟩
  | succ k =>
    rw [en_S]
    exact ⟨fun z => absurd z (nI_m1 (by omega)), fun z => by cases z⟩
theorem en_inj {x y : Nat} (hx : x < 2 ^ 31) (hy : y < 2 ^ 31) : en x = en y ↔ x = y := by
  constructor
  · intro h
    cases x with
    | zero =>
      rw [en_0] at h
      exact ((en_m1 hy).mp h.symm).symm
    | succ k =>
      cases y with
      | zero => rw [en_0] at h; exact (en_m1 hx).mp h
      | succ j =>
        rw [en_S, en_S] at h
        rw [(nI_eq (by omega) (by omega)).mp h]
  · rintro rfl; rfl
theorem cl_en {x : Nat} (h : 1 ≤ x) (h2 : x < 2 ^ 31) : (en x).toNatClampNeg = x - 1 := by
  rw [en_of h, nI_clamp (by omega)]
theorem inb_nI {j N : Nat} (h : j < N) (hN : N < 2 ^ 31) : inb (nI j) N = true := by
  unfold inb
  rw [nI_toInt (by omega), decide_eq_true_eq]
  omega
theorem inb_en {x N : Nat} (h : 1 ≤ x) (h2 : x ≤ N) (hN : N < 2 ^ 31) : inb (en x) N = true := by
  rw [en_of h]
  exact inb_nI (by omega) hN
/-- the reference's object and arrays -/
def MB (h : AH) : Prop :=
  tg h 8 = 10 ∧ (fR h 37 8 = 9 ∧ fR h 38 8 = 10 ∧ fR h 39 8 = 11 ∧ fR h 40 8 = 12 ∧ fR h 41 8 = 13 ∧ fR h 42 8 = 14 ∧ fR h 45 8 = 15 ∧ fR h 46 8 = 16 ∧ fR h 47 8 = 17 ∧ fR h 48 8 = 18 ∧ fR h 49 8 = 19 ∧ fR h 52 8 = 20 ∧ fR h 53 8 = 21 ∧ fR h 54 8 = 22 ∧ fR h 55 8 = 23 ∧ fR h 59 8 = 24 ∧ fR h 60 8 = 25 ∧ fR h 61 8 = 26 ∧ fR h 62 8 = 27 ∧ fR h 63 8 = 28 ∧ fR h 68 8 = 29 ∧ fR h 69 8 = 30 ∧ fR h 70 8 = 31 ∧ fR h 71 8 = 32) ∧
  (tg h 9 = 20 ∧ tg h 10 = 20 ∧ tg h 11 = 21 ∧ tg h 12 = 21 ∧ tg h 13 = 20 ∧ tg h 14 = 20 ∧ tg h 15 = 21 ∧ tg h 16 = 20 ∧ tg h 17 = 20 ∧ tg h 18 = 20 ∧ tg h 19 = 20 ∧ tg h 20 = 20 ∧ tg h 21 = 20 ∧ tg h 22 = 21 ∧ tg h 23 = 20 ∧ tg h 24 = 20 ∧ tg h 25 = 20 ∧ tg h 26 = 20 ∧ tg h 27 = 20 ∧ tg h 28 = 20 ∧ tg h 29 = 20 ∧ tg h 30 = 20 ∧ tg h 31 = 20 ∧ tg h 32 = 20) ∧
  (ln h 9 = 40 ∧ ln h 10 = 40 ∧ ln h 11 = 40 ∧ ln h 12 = 40 ∧ ln h 13 = 40 ∧ ln h 14 = 40 ∧ ln h 15 = 20002 ∧ ln h 16 = 20002 ∧ ln h 17 = 20002 ∧ ln h 18 = 20002 ∧ ln h 19 = 20002 ∧ ln h 20 = 20002 ∧ ln h 21 = 20002 ∧ ln h 22 = 20002 ∧ ln h 23 = 20002 ∧ ln h 24 = 20002 ∧ ln h 25 = 20002 ∧ ln h 26 = 20002 ∧ ln h 27 = 20002 ∧ ln h 28 = 20002 ∧ ln h 29 = 20000 ∧ ln h 30 = 20000 ∧ ln h 31 = 20000 ∧ ln h 32 = 20000)
/-- children and parents -/
abbrev PT : Type := (Nat → Nat) × (Nat → Nat) × (Nat → Nat)
def BP (P : PT) : Prop := ∀ n, P.1 n ≤ 20002 ∧ P.2.1 n ≤ 20002 ∧ P.2.2 n ≤ 20002
/-- the heap, with these in the reference's arrays left, right, parent -/
def pm (h : AH) (P : PT) : AH :=
  (h.1, (fun a i => if a = 16 then en (P.1 (i + 1)) else if a = 17 then en (P.2.1 (i + 1)) else if a = 18 then en (P.2.2 (i + 1)) else h.2.1.1 a i, h.2.1.2.1, h.2.1.2.2), h.2.2)
theorem Hpm (h : AH) (P : PT) : (∀ f a, fI (pm h P) f a = fI h f a) ∧ (∀ f a, fL (pm h P) f a = fL h f a) ∧ (∀ f a, fR (pm h P) f a = fR h f a) ∧ (∀ x, eI (pm h P) 16 x = en (P.1 (x + 1))) ∧ (∀ x, eI (pm h P) 17 x = en (P.2.1 (x + 1))) ∧ (∀ x, eI (pm h P) 18 x = en (P.2.2 (x + 1))) ∧ (∀ f a, eL (pm h P) f a = eL h f a) ∧ (∀ f a, eR (pm h P) f a = eR h f a) ∧ (∀ a, tg (pm h P) a = tg h a) ∧ (∀ a, ln (pm h P) a = ln h a) ∧ (nn (pm h P) = nn h) ∧ (sl (pm h P) = sl h) := ⟨fun _ _ => rfl, fun _ _ => rfl, fun _ _ => rfl, fun _ => rfl, fun _ => rfl, fun _ => rfl, fun _ _ => rfl, fun _ _ => rfl, fun _ => rfl, fun _ => rfl, rfl, rfl⟩
theorem Hpm_o (h : AH) (P : PT) {a : Nat} (x : Nat) (h1 : a ≠ 16) (h2 : a ≠ 17) (h3 : a ≠ 18) : eI (pm h P) a x = eI h a x := by
  show (if a = 16 then _ else if a = 17 then _ else if a = 18 then _ else _) = _
  rw [if_neg h1, if_neg h2, if_neg h3]
  rfl
theorem pm_sl (h : AH) (P : PT) {n : Nat} (hn : 1 ≤ n) (v : Nat) : sI (pm h P) 16 (n - 1) (en v) = pm h (u1 P.1 n v, P.2.1, P.2.2) := by
  unfold sI pm
  congr 2
  congr 1
  funext a i
  unfold u2 u1
  by_cases h1 : a = 16
  · subst h1
    by_cases h2 : i = n - 1
    · simp [h2, show n - 1 + 1 = n by omega]
    · simp [h2, show ¬ i + 1 = n by omega]
  · simp [h1]
theorem pm_sr (h : AH) (P : PT) {n : Nat} (hn : 1 ≤ n) (v : Nat) : sI (pm h P) 17 (n - 1) (en v) = pm h (P.1, u1 P.2.1 n v, P.2.2) := by
  unfold sI pm
  congr 2
  congr 1
  funext a i
  unfold u2 u1
  by_cases h1 : a = 17
  · subst h1
    by_cases h2 : i = n - 1
    · simp [h2, show n - 1 + 1 = n by omega]
    · simp [h2, show ¬ i + 1 = n by omega]
  · simp [h1]
theorem pm_su (h : AH) (P : PT) {n : Nat} (hn : 1 ≤ n) (v : Nat) : sI (pm h P) 18 (n - 1) (en v) = pm h (P.1, P.2.1, u1 P.2.2 n v) := by
  unfold sI pm
  congr 2
  congr 1
  funext a i
  unfold u2 u1
  by_cases h1 : a = 18
  · subst h1
    by_cases h2 : i = n - 1
    · simp [h2, show n - 1 + 1 = n by omega]
    · simp [h2, show ¬ i + 1 = n by omega]
  · simp [h1]
def stl (P : PT) (p c : Nat) : PT := (u1 P.1 p c, P.2.1, if c = 0 then P.2.2 else u1 P.2.2 c p)
def str (P : PT) (p c : Nat) : PT := (P.1, u1 P.2.1 p c, if c = 0 then P.2.2 else u1 P.2.2 c p)
section Mp
variable (L : Nat) (xs : Nat → Int32)
theorem m_67 {h : AH} (hb : MB h) (P : PT) {p c : Nat} (hp : 1 ≤ p) (hp2 : p ≤ 20002) (hc : c ≤ 20002) : XM L xs 67 [.ref 8, .int (en p), .int (en c)] (pm h P) = some (pm h (stl P p c), none) := by
  obtain ⟨b1, b2, b3, b4⟩ := hb
  rw [en_67, k_67_0]
  simp only [Hpm, b1, b2, b3, b4, HF10, gd_t, inb_en hp hp2 (by decide), cl_en hp (by omega), pm_sl h P hp, decide_true, Bool.and_self, k_67_7]
  by_cases h0 : c = 0
  · subst h0
    simp only [en_0, if_true, k_67_19, stl]
  · rw [if_neg (fun z => h0 ((en_m1 (by omega)).mp z))]
    simp only [k_67_12, Hpm, b1, b2, b3, b4, HF10, gd_t, inb_en (show 1 ≤ c by omega) hc (by decide), cl_en (show 1 ≤ c by omega) (by omega), pm_su h _ (show 1 ≤ c by omega), decide_true, Bool.and_self, k_67_19, stl, h0, if_false]
theorem m_68 {h : AH} (hb : MB h) (P : PT) {p c : Nat} (hp : 1 ≤ p) (hp2 : p ≤ 20002) (hc : c ≤ 20002) : XM L xs 68 [.ref 8, .int (en p), .int (en c)] (pm h P) = some (pm h (str P p c), none) := by
  obtain ⟨b1, b2, b3, b4⟩ := hb
  rw [en_68, k_68_0]
  simp only [Hpm, b1, b2, b3, b4, HF10, gd_t, inb_en hp hp2 (by decide), cl_en hp (by omega), pm_sr h P hp, decide_true, Bool.and_self, k_68_7]
  by_cases h0 : c = 0
  · subst h0
    simp only [en_0, if_true, k_68_19, str]
  · rw [if_neg (fun z => h0 ((en_m1 (by omega)).mp z))]
    simp only [k_68_12, Hpm, b1, b2, b3, b4, HF10, gd_t, inb_en (show 1 ≤ c by omega) hc (by decide), cl_en (show 1 ≤ c by omega) (by omega), pm_su h _ (show 1 ≤ c by omega), decide_true, Bool.and_self, k_68_19, str, h0, if_false]
end Mp
