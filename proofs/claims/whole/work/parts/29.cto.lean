-- the class's turnOver and settle
section Cto
variable (L : Nat) (xs : Nat → Int32)
/-- turnOver -/
theorem c_183 (h : AH) (P : PT) (Z : Nat → Int32) {S z : Nat → Nat} {t n : Nat} (hw : WF P S z) (hn : S n ≠ 0) (hu : P.2.2 n ≠ 0) (ht : tg h t = 7) (hT : ∀ a, S a ≠ 0 → tg h a = 4) (hZ : ∀ a, S a ≠ 0 → Z a = nI (z a)) (hB : ∀ a, S a ≠ 0 → z a < 2 ^ 30) :
    XM L xs 183 [.ref t, .ref n, .ref (P.2.2 n)] (cq h P Z) = some (cq (wI h 21 t (fI h 21 t + (nI (Nat.log2 (rz P z n (P.2.2 n))) - nI (Nat.log2 (z n))))) (rot P n) (u1 (u1 Z (P.2.2 n) (nI (rz P z n (P.2.2 n)))) n (nI (z (P.2.2 n)))), none) := by
  obtain ⟨d1, d2, d3, d4, d5, d6, d7⟩ := rot_dist hw hn hu
  obtain ⟨w1, w2, w3, w4, w5⟩ := hw.2.2 n hn
  obtain ⟨w6, w7⟩ := w3 hu
  have hSp : S (P.2.2 n) ≠ 0 := by rw [w7]; exact hn
  obtain ⟨v1, v2, v3, v4, v5⟩ := hw.2.2 (P.2.2 n) hSp
  have n0 : n ≠ 0 := fun q => hn (by rw [q]; exact hw.1)
  have tn := hT n hn
  have tp := hT _ hSp
  have tg' : P.2.2 (P.2.2 n) ≠ 0 → tg h (P.2.2 (P.2.2 n)) = 4 := fun q => hT _ (by rw [(v3 q).2, w7]; exact hn)
  have bp := hB _ hSp
  -- whether the parent is a left child
  have e0 : ∀ (l4 l5 l6 : Value), X L xs 183 0 [.ref t, .ref n, .ref (P.2.2 n), .null, l4, l5, l6] [] (cq h P Z) = X L xs 183 22 [.ref t, .ref n, .ref (P.2.2 n), .ref (P.2.2 (P.2.2 n)), l4, l5, l6] [.int (if (if P.2.2 (P.2.2 n) ≠ 0 ∧ P.1 (P.2.2 (P.2.2 n)) = P.2.2 n then 1 else 0) = 0 then 0 else 1)] (cq h P Z) := by
    intro l4 l5 l6
    simp only [k_183_0, Hcq, tp, HF4, gd_t]
    by_cases g0 : P.2.2 (P.2.2 n) = 0
    · simp only [g0, if_true, k_183_21, ne_eq, not_true_eq_false, false_and, if_false]
    · simp only [g0, if_false, k_183_9, Hcq, tg' g0, HF4, gd_t]
      by_cases gl : P.1 (P.2.2 (P.2.2 n)) = P.2.2 n
      · simp only [gl, not_true_eq_false, if_false, k_183_17, ne_eq, g0, not_false_eq_true, true_and, if_true]
        rfl
      · simp only [gl, not_false_eq_true, if_true, k_183_21, and_false, if_false]
  rw [en_183, e0]
  simp only [k_183_22, Hcq, tn, tp, HF4, gd_t, hZ _ hSp, hZ n hn]
  have e1 : ∀ x y : Nat, y ≤ x → nI x - nI y = nI (x - y) := fun x y q => pk_sub q
  by_cases h1 : P.1 (P.2.2 n) = n
  · have hr : rz P z n (P.2.2 n) = 1 + z (P.2.1 n) + z (P.2.1 (P.2.2 n)) := by unfold rz; rw [if_neg d1, if_pos rfl, if_pos h1]
    rw [h1] at v5
    have tc : P.2.1 n ≠ 0 → tg h (P.2.1 n) = 4 := fun q => hT _ (by rw [(w2 q).2]; exact hn)
    have er : nI (z (P.2.2 n)) - nI (z n) + (if P.2.1 n = 0 then 0 else Z (P.2.1 n)) = nI (rz P z n (P.2.2 n)) := by
      rw [e1 _ _ (by omega), hr]
      by_cases c0 : P.2.1 n = 0
      · rw [if_pos c0, c0, hw.2.1, Int32.add_zero]
        congr 1; omega
      · rw [if_neg c0, hZ _ (by rw [(w2 c0).2]; exact hn), nI_add]
        congr 1; omega
    simp only [h1, not_true_eq_false, if_false, k_183_47, Hcq, tn, tp, HF4, gd_t, HQ, cc_6_83_0, c_47 L xs h P Z _ tc, bI_s, ne_eq, hu, not_false_eq_true, decide_true, Bool.and_self, cc_6_104_4, c_138 L xs h P Z _ _ tp tc, bV_s, n0, cc_6_101_4, c_139 L xs h _ Z _ _ tn (fun _ => tp), er]
    rw [c_183_100 L xs h _ Z (w := if P.2.2 (P.2.2 n) ≠ 0 ∧ P.1 (P.2.2 (P.2.2 n)) = P.2.2 n then 1 else 0) (a := rz P z n (P.2.2 n)) (b := z n) ht tn tp tg' (by omega) (by omega) (hZ n hn) rfl (fun q => by by_cases c : P.2.2 (P.2.2 n) ≠ 0 ∧ P.1 (P.2.2 (P.2.2 n)) = P.2.2 n; exact c.1; rw [if_neg c] at q; exact absurd rfl q)]
    congr 3
    unfold rot
    simp only [h1, if_true]
    have hZ1 : (str (stl P (P.2.2 n) (P.2.1 n)) n (P.2.2 n)).1 (P.2.2 (P.2.2 n)) = P.1 (P.2.2 (P.2.2 n)) := by
      show u1 P.1 _ _ _ = _
      unfold u1
      rw [if_neg d2]
    rw [hZ1]
    by_cases g0 : P.2.2 (P.2.2 n) = 0
    · rw [if_pos g0, if_pos g0]
    · rw [if_neg g0, if_neg g0]
      by_cases gl : P.1 (P.2.2 (P.2.2 n)) = P.2.2 n
      · rw [if_pos gl, if_pos (by rw [if_pos ⟨g0, gl⟩]; decide)]
      · rw [if_neg gl, if_neg (by rw [if_neg (fun q => gl q.2)]; decide)]
  · have h2 : P.2.1 (P.2.2 n) = n := by
      rcases w6 with q | q
      · exact absurd q h1
      · exact q
    have hr : rz P z n (P.2.2 n) = 1 + z (P.1 n) + z (P.1 (P.2.2 n)) := by unfold rz; rw [if_neg d1, if_pos rfl, if_neg h1]
    rw [h2] at v5
    have tc : P.1 n ≠ 0 → tg h (P.1 n) = 4 := fun q => hT _ (by rw [(w1 q).2]; exact hn)
    have er : nI (z (P.2.2 n)) - nI (z n) + (if P.1 n = 0 then 0 else Z (P.1 n)) = nI (rz P z n (P.2.2 n)) := by
      rw [e1 _ _ (by omega), hr]
      by_cases c0 : P.1 n = 0
      · rw [if_pos c0, c0, hw.2.1, Int32.add_zero]
        congr 1; omega
      · rw [if_neg c0, hZ _ (by rw [(w1 c0).2]; exact hn), nI_add]
        congr 1; omega
    simp only [h1, not_false_eq_true, if_true, k_183_75, Hcq, tn, tp, HF4, gd_t, HQ, cc_6_83_0, c_47 L xs h P Z _ tc, bI_s, ne_eq, hu, decide_true, Bool.and_self, cc_6_101_4, c_139 L xs h P Z _ _ tp tc, bV_s, n0, cc_6_104_4, c_138 L xs h _ Z _ _ tn (fun _ => tp), er]
    rw [c_183_100 L xs h _ Z (w := if P.2.2 (P.2.2 n) ≠ 0 ∧ P.1 (P.2.2 (P.2.2 n)) = P.2.2 n then 1 else 0) (a := rz P z n (P.2.2 n)) (b := z n) ht tn tp tg' (by omega) (by omega) (hZ n hn) rfl (fun q => by by_cases c : P.2.2 (P.2.2 n) ≠ 0 ∧ P.1 (P.2.2 (P.2.2 n)) = P.2.2 n; exact c.1; rw [if_neg c] at q; exact absurd rfl q)]
    congr 3
    unfold rot
    simp only [h1, if_false]
    have hZ1 : (stl (str P (P.2.2 n) (P.1 n)) n (P.2.2 n)).1 (P.2.2 (P.2.2 n)) = P.1 (P.2.2 (P.2.2 n)) := by
      show u1 P.1 _ _ _ = _
      unfold u1
      rw [if_neg d3]
    rw [hZ1]
    by_cases g0 : P.2.2 (P.2.2 n) = 0
    · rw [if_pos g0, if_pos g0]
    · rw [if_neg g0, if_neg g0]
      by_cases gl : P.1 (P.2.2 (P.2.2 n)) = P.2.2 n
      · rw [if_pos gl, if_pos (by rw [if_pos ⟨g0, gl⟩]; decide)]
      · rw [if_neg gl, if_neg (by rw [if_neg (fun q => gl q.2)]; decide)]
end Cto
