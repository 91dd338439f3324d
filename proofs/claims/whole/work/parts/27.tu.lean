-- turning up
theorem rz_le {P : PT} {S z : Nat → Nat} {B : Nat} (h : WF P S z) (hB : ∀ x, S x ≠ 0 → z x ≤ B) {n : Nat} (hn : S n ≠ 0) (hu : P.2.2 n ≠ 0) : ∀ x, S x ≠ 0 → rz P z n x ≤ B := by
  intro x hx
  obtain ⟨a1, a2⟩ := h.up_lt hn hu
  have hp := hB (P.2.2 n) (by rw [a2]; exact hn)
  obtain ⟨-, -, w3, -, w5⟩ := h.2.2 n hn
  have hzp := (h.2.2 (P.2.2 n) (by rw [a2]; exact hn)).2.2.2.2
  have w6 := (w3 hu).1
  unfold rz
  by_cases x1 : x = n
  · rw [if_pos x1]; exact hp
  · rw [if_neg x1]
    by_cases x2 : x = P.2.2 n
    · rw [if_pos x2]
      by_cases x3 : P.1 (P.2.2 n) = n
      · rw [if_pos x3]; rw [x3] at hzp; omega
      · rw [if_neg x3]
        have : P.2.1 (P.2.2 n) = n := by
          rcases w6 with q | q
          · exact absurd q x3
          · exact q
        rw [this] at hzp; omega
    · rw [if_neg x2]; exact hB x hx
/-- the node's parent and size behind a turn -/
theorem rot_up {P : PT} {S z : Nat → Nat} (h : WF P S z) {n : Nat} (hn : S n ≠ 0) (hu : P.2.2 n ≠ 0) : (rot P n).2.2 n = P.2.2 (P.2.2 n) ∧ rz P z n n = z (P.2.2 n) := by
  obtain ⟨d1, d2, d3, -⟩ := rot_dist h hn hu
  refine ⟨?_, by unfold rz; rw [if_pos rfl]⟩
  by_cases h1 : P.1 (P.2.2 n) = n
  · rw [(rot_A h1 hu d1 d2 d3).2.2 n, if_pos rfl]
  · rw [(rot_B h1 hu d1 d2 d3).2.2 n, if_pos rfl]
def zz (P : PT) (n : Nat) : Bool := (decide (P.1 (P.2.2 n) = n)) == (decide (P.1 (P.2.2 (P.2.2 n)) = P.2.2 n))
/-- ahead of a straight turn: the parent's own turn leaves the node below it -/
theorem zz_up {P : PT} {S z : Nat → Nat} (h : WF P S z) {n : Nat} (hn : S n ≠ 0) (hu : P.2.2 n ≠ 0) (hg : P.2.2 (P.2.2 n) ≠ 0) (hz : zz P n = true) : (rot P (P.2.2 n)).2.2 n = P.2.2 n ∧ rz P z (P.2.2 n) n = z n ∧ rz P z (P.2.2 n) (P.2.2 n) = z (P.2.2 (P.2.2 n)) := by
  obtain ⟨a1, a2⟩ := h.up_lt hn hu
  have hp : S (P.2.2 n) ≠ 0 := by rw [a2]; exact hn
  have n0 : n ≠ 0 := fun q => hn (by rw [q]; exact h.1)
  obtain ⟨d1, d2, d3, -⟩ := rot_dist h hn hu
  obtain ⟨e1, e2, e3, -⟩ := rot_dist h hp hg
  have w4 := (h.2.2 (P.2.2 n) hp).2.2.2.1
  have hzz : (P.1 (P.2.2 n) = n) ↔ (P.1 (P.2.2 (P.2.2 n)) = P.2.2 n) := by
    simpa [zz] using hz
  refine ⟨?_, ?_, ?_⟩
  · by_cases h1 : P.1 (P.2.2 (P.2.2 n)) = P.2.2 n
    · rw [(rot_A h1 hg e1 e2 e3).2.2 n, if_neg (Ne.symm d1), if_neg (Ne.symm d3), if_neg]
      intro q
      have q2 := hzz.mpr h1
      have := w4 (by rw [q2]; exact q.1)
      rw [q2] at this
      exact n0 this
    · rw [(rot_B h1 hg e1 e2 e3).2.2 n, if_neg (Ne.symm d1), if_neg (Ne.symm d3), if_neg]
      intro q
      exact h1 (hzz.mp q.1.symm)
  · unfold rz
    rw [if_neg (Ne.symm d1), if_neg (Ne.symm d3)]
  · unfold rz
    rw [if_pos rfl]
def tuF : Nat → PT → Nat → Nat → PT × Nat
  | 0, P, _, s => (P, s)
  | f + 1, P, n, s =>
    if P.2.2 n = 0 then (P, s)
    else if P.2.2 (P.2.2 n) = 0 then tuF f (rot P n) n (s + 1)
    else if zz P n = true then tuF f (rot (rot P (P.2.2 n)) n) n (s + 1)
    else tuF f (rot (rot P n) n) n (s + 1)
theorem u2_u2 {α : Type} (m : Nat → Nat → α) (f a : Nat) (v w : α) : u2 (u2 m f a v) f a w = u2 m f a w := by
  funext g x
  unfold u2
  by_cases h1 : g = f
  · by_cases h2 : x = a
    · simp only [h1, h2, if_true]
    · simp only [h1, h2, if_true, if_false]
  · simp only [h1, if_false]
theorem wI_wI (h : AH) (f a : Nat) (v w : Int32) : wI (wI h f a v) f a w = wI h f a w := by
  show ((u2 (u2 h.1.1 f a v) f a w, h.1.2.1, h.1.2.2), h.2) = ((u2 h.1.1 f a w, h.1.2.1, h.1.2.2), h.2)
  rw [u2_u2]
theorem MB_wI {h : AH} (hb : MB h) (f a : Nat) (v : Int32) : MB (wI h f a v) := hb
section Tu
variable (L : Nat) (xs : Nat → Int32)
theorem stp (h : AH) (P : PT) (s : Nat) : wI (pm (wI h 65 8 (nI s)) P) 65 8 (fI (pm (wI h 65 8 (nI s)) P) 65 8 + 1) = pm (wI h 65 8 (nI (s + 1))) P := by
  have e : fI (pm (wI h 65 8 (nI s)) P) 65 8 = nI s := by simp only [Hpm, HwI, if_true]
  rw [e, nI_1]
  show pm (wI (wI h 65 8 (nI s)) 65 8 (nI (s + 1))) P = _
  rw [wI_wI]
set_option maxHeartbeats 1000000 in
theorem m_70_loop {h : AH} (hb : MB h) {S : Nat → Nat} {B n : Nat} (hn : S n ≠ 0) (hn2 : n ≤ 20002) : ∀ (f : Nat) (P : PT) (s : Nat) (z : Nat → Nat) (l2 l3 : Value), WF P S z → (∀ x, S x ≠ 0 → z x ≤ B) → BP P → B < z n + f →
    X L xs 70 0 [.ref 8, .int (en n), l2, l3] [] (pm (wI h 65 8 (nI s)) P) = some (pm (wI h 65 8 (nI (tuF f P n s).2)) (tuF f P n s).1, none) := by
  intro f
  induction f with
  | zero =>
    intro P s z l2 l3 hw hB hP hf
    have := hB n hn
    omega
  | succ f ih =>
    intro P s z l2 l3 hw hB hP hf
    have hb2 := MB_wI hb 65 8 (nI s)
    have hb3 := MB_wI hb 65 8 (nI (s + 1))
    obtain ⟨b1, b2, b3, b4⟩ := id hb2
    obtain ⟨c1, c2, c3, c4⟩ := id hb3
    have n1 : 1 ≤ n := by
      rcases Nat.eq_zero_or_pos n with q | q
      · rw [q, hw.1] at hn; exact absurd rfl hn
      · exact q
    have u2 := (hP n).2.2
    have g2 := (hP (P.2.2 n)).2.2
    simp only [k_70_0, Hpm, b1, b2, b3, b4, HF10, gd_t, inb_en n1 hn2 (by decide), cl_en n1 (by omega), decide_true, Bool.and_self, sub1 n1]
    unfold tuF
    by_cases u0 : P.2.2 n = 0
    · rw [if_pos ((en_m1 (by omega)).mpr u0), if_pos u0, k_70_106]
    · rw [if_neg (fun q => u0 ((en_m1 (by omega)).mp q)), if_neg u0]
      have p1 : 1 ≤ P.2.2 n := by omega
      have hup := hw.up_lt hn u0
      have hSp : S (P.2.2 n) ≠ 0 := by rw [hup.2]; exact hn
      have r1 := rot_wf hw hn u0
      have r2 := rz_le hw hB hn u0
      have r3 := BP_rot hP hn2
      obtain ⟨r4, r5⟩ := rot_up hw hn u0
      have stp' := stp h P s
      simp only [Hpm] at stp'
      simp only [k_70_10, Hpm, b1, b2, b3, b4, HF10, gd_t, inb_en n1 hn2 (by decide), cl_en n1 (by omega), decide_true, Bool.and_self, sub1 n1, inb_en p1 u2 (by decide), cl_en p1 (by omega), sub1 p1, stp', k_70_34]
      by_cases g0 : P.2.2 (P.2.2 n) = 0
      · rw [if_neg (fun q => q ((en_m1 (by omega)).mpr g0)), if_pos g0]
        simp only [k_70_39, Hpm, c1, HQ, HZ, Bool.and_self, gd_t, cc_9_140_10, m_69 L xs hb3 P hP n1 hn2 u0, bV_s, k_70_103]
        exact ih (rot P n) (s + 1) (rz P z n) _ _ r1 r2 r3 (by rw [r5]; omega)
      · rw [if_pos (fun q => g0 ((en_m1 (by omega)).mp q)), if_neg g0]
        have g1 : 1 ≤ P.2.2 (P.2.2 n) := by omega
        have lp := (hP (P.2.2 n)).1
        have lg := (hP (P.2.2 (P.2.2 n))).1
        have e77 : X L xs 70 47 [.ref 8, .int (en n), .int (en (P.2.2 n)), .int (en (P.2.2 (P.2.2 n)))] [] (pm (wI h 65 8 (nI (s + 1))) P) = if zz P n = true then X L xs 70 80 [.ref 8, .int (en n), .int (en (P.2.2 n)), .int (en (P.2.2 (P.2.2 n)))] [] (pm (wI h 65 8 (nI (s + 1))) P) else X L xs 70 93 [.ref 8, .int (en n), .int (en (P.2.2 n)), .int (en (P.2.2 (P.2.2 n)))] [] (pm (wI h 65 8 (nI (s + 1))) P) := by
          simp only [k_70_47, Hpm, c1, c2, c3, c4, HF10, gd_t, inb_en p1 u2 (by decide), cl_en p1 (by omega), sub1 p1, decide_true, Bool.and_self]
          by_cases h1 : P.1 (P.2.2 n) = n
          · rw [if_neg (fun q => q ((en_inj (by omega) (by omega)).mpr h1))]
            simp only [k_70_57, k_70_62, Hpm, c1, c2, c3, c4, HF10, gd_t, inb_en g1 g2 (by decide), cl_en g1 (by omega), sub1 g1, decide_true, Bool.and_self]
            by_cases h2 : P.1 (P.2.2 (P.2.2 n)) = P.2.2 n
            · rw [if_neg (fun q => q ((en_inj (by omega) (by omega)).mpr h2))]
              simp only [k_70_72, k_70_77, zz, h1, h2, decide_true, beq_self_eq_true, if_true, not_true_eq_false, if_false]
            · rw [if_pos (fun q => h2 ((en_inj (by omega) (by omega)).mp q))]
              simp only [k_70_76, k_70_77, zz, h1, h2, decide_true, decide_false]
              rfl
          · rw [if_pos (fun q => h1 ((en_inj (by omega) (by omega)).mp q))]
            simp only [k_70_61, k_70_62, Hpm, c1, c2, c3, c4, HF10, gd_t, inb_en g1 g2 (by decide), cl_en g1 (by omega), sub1 g1, decide_true, Bool.and_self]
            by_cases h2 : P.1 (P.2.2 (P.2.2 n)) = P.2.2 n
            · rw [if_neg (fun q => q ((en_inj (by omega) (by omega)).mpr h2))]
              simp only [k_70_72, k_70_77, zz, h1, h2, decide_true, decide_false]
              rfl
            · rw [if_pos (fun q => h2 ((en_inj (by omega) (by omega)).mp q))]
              simp only [k_70_76, k_70_77, zz, h1, h2, decide_false, beq_self_eq_true, if_true, not_true_eq_false, if_false]
        rw [e77]
        by_cases hz : zz P n = true
        · rw [if_pos hz, if_pos hz]
          obtain ⟨y1, y2, y3⟩ := zz_up hw hn u0 g0 hz
          have q1 := rot_wf hw hSp g0
          have q2 := rz_le hw hB hSp g0
          have q3 := BP_rot hP u2
          have hu1 : (rot P (P.2.2 n)).2.2 n ≠ 0 := by rw [y1]; exact u0
          simp only [k_70_80, Hpm, c1, HQ, HZ, Bool.and_self, gd_t, cc_9_140_10, m_69 L xs hb3 P hP p1 u2 g0, m_69 L xs hb3 (rot P (P.2.2 n)) q3 n1 hn2 hu1, bV_s, k_70_103]
          obtain ⟨-, t5⟩ := rot_up q1 hn hu1
          refine ih _ (s + 1) _ _ _ (rot_wf q1 hn hu1) (rz_le q1 q2 hn hu1) (BP_rot q3 hn2) ?_
          rw [t5, y1, y3]
          have := (hw.up_lt hSp g0).1
          omega
        · rw [if_neg hz, if_neg hz]
          have hu1 : (rot P n).2.2 n ≠ 0 := by rw [r4]; exact g0
          simp only [k_70_93, Hpm, c1, HQ, HZ, Bool.and_self, gd_t, cc_9_140_10, m_69 L xs hb3 P hP n1 hn2 u0, m_69 L xs hb3 (rot P n) r3 n1 hn2 hu1, bV_s, k_70_103]
          obtain ⟨-, t5⟩ := rot_up r1 hn hu1
          refine ih _ (s + 1) _ _ _ (rot_wf r1 hn hu1) (rz_le r1 r2 hn hu1) (BP_rot r3 hn2) ?_
          rw [t5, r4]
          have := (r1.up_lt hn hu1).1
          rw [r4, r5] at this
          omega
end Tu
