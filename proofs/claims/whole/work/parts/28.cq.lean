-- THE CLASS: its nodes' rows left, right, up (P) and size (Z)
def cq (h : AH) (P : PT) (Z : Nat → Int32) : AH := ((fun f a => if f = 29 then Z a else h.1.1 f a, h.1.2.1, fun f a => if f = 26 then P.1 a else if f = 27 then P.2.1 a else if f = 28 then P.2.2 a else h.1.2.2 f a), h.2)
theorem Hcq (h : AH) (P : PT) (Z : Nat → Int32) : (∀ a, fI (cq h P Z) 29 a = Z a) ∧ (∀ a, fR (cq h P Z) 26 a = P.1 a) ∧ (∀ a, fR (cq h P Z) 27 a = P.2.1 a) ∧ (∀ a, fR (cq h P Z) 28 a = P.2.2 a) ∧ (∀ f a, fL (cq h P Z) f a = fL h f a) ∧ (∀ f a, eI (cq h P Z) f a = eI h f a) ∧ (∀ f a, eL (cq h P Z) f a = eL h f a) ∧ (∀ f a, eR (cq h P Z) f a = eR h f a) ∧ (∀ a, tg (cq h P Z) a = tg h a) ∧ (∀ a, ln (cq h P Z) a = ln h a) ∧ (nn (cq h P Z) = nn h) ∧ (sl (cq h P Z) = sl h) ∧ (∀ a, fI (cq h P Z) 2 a = fI h 2 a) ∧ (∀ a, fI (cq h P Z) 3 a = fI h 3 a) ∧ (∀ a, fI (cq h P Z) 4 a = fI h 4 a) ∧ (∀ a, fI (cq h P Z) 6 a = fI h 6 a) ∧ (∀ a, fI (cq h P Z) 11 a = fI h 11 a) ∧ (∀ a, fI (cq h P Z) 12 a = fI h 12 a) ∧ (∀ a, fI (cq h P Z) 14 a = fI h 14 a) ∧ (∀ a, fI (cq h P Z) 15 a = fI h 15 a) ∧ (∀ a, fI (cq h P Z) 16 a = fI h 16 a) ∧ (∀ a, fI (cq h P Z) 17 a = fI h 17 a) ∧ (∀ a, fI (cq h P Z) 20 a = fI h 20 a) ∧ (∀ a, fI (cq h P Z) 21 a = fI h 21 a) ∧ (∀ a, fI (cq h P Z) 22 a = fI h 22 a) ∧ (∀ a, fI (cq h P Z) 25 a = fI h 25 a) ∧ (∀ a, fI (cq h P Z) 30 a = fI h 30 a) ∧ (∀ a, fI (cq h P Z) 33 a = fI h 33 a) ∧ (∀ a, fI (cq h P Z) 36 a = fI h 36 a) ∧ (∀ a, fI (cq h P Z) 43 a = fI h 43 a) ∧ (∀ a, fI (cq h P Z) 44 a = fI h 44 a) ∧ (∀ a, fI (cq h P Z) 50 a = fI h 50 a) ∧ (∀ a, fI (cq h P Z) 51 a = fI h 51 a) ∧ (∀ a, fI (cq h P Z) 56 a = fI h 56 a) ∧ (∀ a, fI (cq h P Z) 57 a = fI h 57 a) ∧ (∀ a, fI (cq h P Z) 58 a = fI h 58 a) ∧ (∀ a, fI (cq h P Z) 64 a = fI h 64 a) ∧ (∀ a, fI (cq h P Z) 65 a = fI h 65 a) ∧ (∀ a, fI (cq h P Z) 67 a = fI h 67 a) ∧ (∀ a, fI (cq h P Z) 72 a = fI h 72 a) ∧ (∀ a, fI (cq h P Z) 73 a = fI h 73 a) ∧ (∀ a, fR (cq h P Z) 0 a = fR h 0 a) ∧ (∀ a, fR (cq h P Z) 1 a = fR h 1 a) ∧ (∀ a, fR (cq h P Z) 7 a = fR h 7 a) ∧ (∀ a, fR (cq h P Z) 8 a = fR h 8 a) ∧ (∀ a, fR (cq h P Z) 9 a = fR h 9 a) ∧ (∀ a, fR (cq h P Z) 10 a = fR h 10 a) ∧ (∀ a, fR (cq h P Z) 13 a = fR h 13 a) ∧ (∀ a, fR (cq h P Z) 18 a = fR h 18 a) ∧ (∀ a, fR (cq h P Z) 19 a = fR h 19 a) ∧ (∀ a, fR (cq h P Z) 23 a = fR h 23 a) ∧ (∀ a, fR (cq h P Z) 31 a = fR h 31 a) ∧ (∀ a, fR (cq h P Z) 32 a = fR h 32 a) ∧ (∀ a, fR (cq h P Z) 34 a = fR h 34 a) ∧ (∀ a, fR (cq h P Z) 35 a = fR h 35 a) ∧ (∀ a, fR (cq h P Z) 37 a = fR h 37 a) ∧ (∀ a, fR (cq h P Z) 38 a = fR h 38 a) ∧ (∀ a, fR (cq h P Z) 39 a = fR h 39 a) ∧ (∀ a, fR (cq h P Z) 40 a = fR h 40 a) ∧ (∀ a, fR (cq h P Z) 41 a = fR h 41 a) ∧ (∀ a, fR (cq h P Z) 42 a = fR h 42 a) ∧ (∀ a, fR (cq h P Z) 45 a = fR h 45 a) ∧ (∀ a, fR (cq h P Z) 46 a = fR h 46 a) ∧ (∀ a, fR (cq h P Z) 47 a = fR h 47 a) ∧ (∀ a, fR (cq h P Z) 48 a = fR h 48 a) ∧ (∀ a, fR (cq h P Z) 49 a = fR h 49 a) ∧ (∀ a, fR (cq h P Z) 52 a = fR h 52 a) ∧ (∀ a, fR (cq h P Z) 53 a = fR h 53 a) ∧ (∀ a, fR (cq h P Z) 54 a = fR h 54 a) ∧ (∀ a, fR (cq h P Z) 55 a = fR h 55 a) ∧ (∀ a, fR (cq h P Z) 59 a = fR h 59 a) ∧ (∀ a, fR (cq h P Z) 60 a = fR h 60 a) ∧ (∀ a, fR (cq h P Z) 61 a = fR h 61 a) ∧ (∀ a, fR (cq h P Z) 62 a = fR h 62 a) ∧ (∀ a, fR (cq h P Z) 63 a = fR h 63 a) ∧ (∀ a, fR (cq h P Z) 68 a = fR h 68 a) ∧ (∀ a, fR (cq h P Z) 69 a = fR h 69 a) ∧ (∀ a, fR (cq h P Z) 70 a = fR h 70 a) ∧ (∀ a, fR (cq h P Z) 71 a = fR h 71 a) := ⟨fun _ => rfl, fun _ => rfl, fun _ => rfl, fun _ => rfl, fun _ _ => rfl, fun _ _ => rfl, fun _ _ => rfl, fun _ _ => rfl, fun _ => rfl, fun _ => rfl, rfl, rfl, fun _ => rfl, fun _ => rfl, fun _ => rfl, fun _ => rfl, fun _ => rfl, fun _ => rfl, fun _ => rfl, fun _ => rfl, fun _ => rfl, fun _ => rfl, fun _ => rfl, fun _ => rfl, fun _ => rfl, fun _ => rfl, fun _ => rfl, fun _ => rfl, fun _ => rfl, fun _ => rfl, fun _ => rfl, fun _ => rfl, fun _ => rfl, fun _ => rfl, fun _ => rfl, fun _ => rfl, fun _ => rfl, fun _ => rfl, fun _ => rfl, fun _ => rfl, fun _ => rfl, fun _ => rfl, fun _ => rfl, fun _ => rfl, fun _ => rfl, fun _ => rfl, fun _ => rfl, fun _ => rfl, fun _ => rfl, fun _ => rfl, fun _ => rfl, fun _ => rfl, fun _ => rfl, fun _ => rfl, fun _ => rfl, fun _ => rfl, fun _ => rfl, fun _ => rfl, fun _ => rfl, fun _ => rfl, fun _ => rfl, fun _ => rfl, fun _ => rfl, fun _ => rfl, fun _ => rfl, fun _ => rfl, fun _ => rfl, fun _ => rfl, fun _ => rfl, fun _ => rfl, fun _ => rfl, fun _ => rfl, fun _ => rfl, fun _ => rfl, fun _ => rfl, fun _ => rfl, fun _ => rfl, fun _ => rfl, fun _ => rfl⟩
theorem cq_l (h : AH) (P : PT) (Z : Nat → Int32) (n v : Nat) : wR (cq h P Z) 26 n v = cq h (u1 P.1 n v, P.2.1, P.2.2) Z := by
  have e : u2 (fun f a => if f = 26 then P.1 a else if f = 27 then P.2.1 a else if f = 28 then P.2.2 a else h.1.2.2 f a) 26 n v = (fun f a => if f = 26 then u1 P.1 n v a else if f = 27 then P.2.1 a else if f = 28 then P.2.2 a else h.1.2.2 f a) := by
    funext f a
    unfold u2 u1
    by_cases h1 : f = 26
    · simp only [h1, if_true]
    · simp only [h1, if_false]
  exact congrArg (fun m => (((cq h P Z).1.1, (cq h P Z).1.2.1, m), (cq h P Z).2)) e
theorem cq_r (h : AH) (P : PT) (Z : Nat → Int32) (n v : Nat) : wR (cq h P Z) 27 n v = cq h (P.1, u1 P.2.1 n v, P.2.2) Z := by
  have e : u2 (fun f a => if f = 26 then P.1 a else if f = 27 then P.2.1 a else if f = 28 then P.2.2 a else h.1.2.2 f a) 27 n v = (fun f a => if f = 26 then P.1 a else if f = 27 then u1 P.2.1 n v a else if f = 28 then P.2.2 a else h.1.2.2 f a) := by
    funext f a
    unfold u2 u1
    by_cases h1 : f = 27
    · subst h1; rfl
    · simp only [h1, if_false]
  exact congrArg (fun m => (((cq h P Z).1.1, (cq h P Z).1.2.1, m), (cq h P Z).2)) e
theorem cq_u (h : AH) (P : PT) (Z : Nat → Int32) (n v : Nat) : wR (cq h P Z) 28 n v = cq h (P.1, P.2.1, u1 P.2.2 n v) Z := by
  have e : u2 (fun f a => if f = 26 then P.1 a else if f = 27 then P.2.1 a else if f = 28 then P.2.2 a else h.1.2.2 f a) 28 n v = (fun f a => if f = 26 then P.1 a else if f = 27 then P.2.1 a else if f = 28 then u1 P.2.2 n v a else h.1.2.2 f a) := by
    funext f a
    unfold u2 u1
    by_cases h1 : f = 28
    · subst h1; rfl
    · simp only [h1, if_false]
  exact congrArg (fun m => (((cq h P Z).1.1, (cq h P Z).1.2.1, m), (cq h P Z).2)) e
theorem cq_z (h : AH) (P : PT) (Z : Nat → Int32) (n : Nat) (v : Int32) : wI (cq h P Z) 29 n v = cq h P (u1 Z n v) := by
  have e : u2 (fun f a => if f = 29 then Z a else h.1.1 f a) 29 n v = (fun f a => if f = 29 then u1 Z n v a else h.1.1 f a) := by
    funext f a
    unfold u2 u1
    by_cases h1 : f = 29
    · simp only [h1, if_true]
    · simp only [h1, if_false]
  exact congrArg (fun m => ((m, (cq h P Z).1.2.1, (cq h P Z).1.2.2), (cq h P Z).2)) e
theorem cq_wI (h : AH) (P : PT) (Z : Nat → Int32) {f : Nat} (a : Nat) (v : Int32) (hf : f ≠ 29) : wI (cq h P Z) f a v = cq (wI h f a v) P Z := by
  have e : u2 (fun f a => if f = 29 then Z a else h.1.1 f a) f a v = (fun g x => if g = 29 then Z x else u2 h.1.1 f a v g x) := by
    funext g x
    unfold u2
    by_cases h1 : g = f
    · subst h1; simp only [if_true, hf, if_false]
    · simp only [h1, if_false]
  exact congrArg (fun m => ((m, (cq h P Z).1.2.1, (cq h P Z).1.2.2), (cq h P Z).2)) e
section Cq
variable (L : Nat) (xs : Nat → Int32)
theorem c_138 (h : AH) (P : PT) (Z : Nat → Int32) (n c : Nat) (hn : tg h n = 4) (hc : c ≠ 0 → tg h c = 4) : XM L xs 138 [.ref n, .ref c] (cq h P Z) = some (cq h (stl P n c) Z, none) := by
  simp only [en_138, k_138_0, Hcq, hn, HF4, gd_t, cq_l, k_138_5]
  by_cases c0 : c = 0
  · simp only [c0, if_true, k_138_14, stl]
  · simp only [c0, if_false, k_138_9, Hcq, hc c0, HF4, gd_t, cq_u, k_138_14, stl]
theorem c_139 (h : AH) (P : PT) (Z : Nat → Int32) (n c : Nat) (hn : tg h n = 4) (hc : c ≠ 0 → tg h c = 4) : XM L xs 139 [.ref n, .ref c] (cq h P Z) = some (cq h (str P n c) Z, none) := by
  simp only [en_139, k_139_0, Hcq, hn, HF4, gd_t, cq_r, k_139_5]
  by_cases c0 : c = 0
  · simp only [c0, if_true, k_139_14, str]
  · simp only [c0, if_false, k_139_9, Hcq, hc c0, HF4, gd_t, cq_u, k_139_14, str]
theorem c_47 (h : AH) (P : PT) (Z : Nat → Int32) (c : Nat) (hc : c ≠ 0 → tg h c = 4) : XM L xs 47 [.ref c] (cq h P Z) = some (cq h P Z, some (.int (if c = 0 then 0 else Z c))) := by
  simp only [en_47, k_47_0]
  by_cases c0 : c = 0
  · simp only [c0, if_true, k_47_4, k_47_12]
  · simp only [c0, if_false, k_47_8, Hcq, hc c0, HF4, gd_t, k_47_12]
/-- turnOver, from the sizes on -/
theorem c_183_100 (h : AH) (Q : PT) (Z : Nat → Int32) {t n p g a b w : Nat} {l4 : Int32} (ht : tg h t = 7) (hn : tg h n = 4) (hp : tg h p = 4) (hg : g ≠ 0 → tg h g = 4) (ha : a < 2 ^ 31) (hb : b < 2 ^ 31) (hZ : Z n = nI b) (hw : l4 = if w = 0 then 0 else 1) (hw2 : w ≠ 0 → g ≠ 0) (l5 : Int32) :
    X L xs 183 100 [.ref t, .ref n, .ref p, .ref g, .int l4, .int l5, .int (nI a)] [] (cq h Q Z) = some (cq (wI h 21 t (fI h 21 t + (nI (Nat.log2 a) - nI (Nat.log2 b)))) (if g = 0 then (Q.1, Q.2.1, u1 Q.2.2 n g) else if w ≠ 0 then (u1 Q.1 g n, Q.2.1, u1 Q.2.2 n g) else (Q.1, u1 Q.2.1 g n, u1 Q.2.2 n g)) (u1 (u1 Z p (nI a)) n l5), none) := by
  simp only [k_183_100, Hcq, ht, HF7, gd_t, HQ, cc_6_47_0, s_40 L xs _ a ha, bI_s, hn, HF4, hZ, s_40 L xs _ b hb, cq_wI _ _ _ _ _ (show 21 ≠ 29 by decide), k_183_122, HwI, hp, cq_z, k_183_128, k_183_134, cq_u, k_183_139]
  by_cases w0 : w = 0
  · have e : l4 = 0 := by rw [hw, if_pos w0]
    subst e
    simp only [if_true, k_183_152, w0, ne_eq, not_true_eq_false, if_false]
    by_cases g0 : g = 0
    · simp only [g0, if_true, k_183_161]
    · simp only [g0, if_false, k_183_156, Hcq, HwI, hg g0, HF4, gd_t, cq_r, k_183_161]
  · have e : l4 = 1 := by rw [hw, if_neg w0]
    subst e
    have g0 := hw2 w0
    rw [if_neg (by decide)]
    simp only [k_183_144, Hcq, HwI, hg g0, HF4, gd_t, cq_l, k_183_149, k_183_161, g0, if_false, w0, ne_eq, not_false_eq_true, if_true]
end Cq
