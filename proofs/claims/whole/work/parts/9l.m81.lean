-- the reference's takesPlace
section M81
variable (L : Nat) (xs : Nat → Int32)
theorem m_81 {h : AH} (hb : MB h) (m : MS) {s n ch : Nat} (hs : s < 40) (n1 : 1 ≤ n) (n2 : n ≤ 20002) (hc : ch ≤ 20002) (hu : m.P.2.2 n ≤ 20002) (hl : ∀ x, m.P.1 x ≤ 20002) :
    XM L xs 81 [.ref 8, .int (nI s), .int (en n), .int (en ch)] (ml h m) = some (ml h ((m.sP (tkP m.P n ch)).srt (if m.P.2.2 n = 0 then u1 m.rt s ch else m.rt)), none) := by
  obtain ⟨b1, b2, b3, b4⟩ := id hb
  have hs31 : s < 2 ^ 31 := by omega
  have n31 : n < 2 ^ 31 := by omega
  have en1 : n - 1 + 1 = n := by omega
  generalize hp : m.P.2.2 n = p at *
  have p31 : p < 2 ^ 31 := by omega
  have tail : ∀ (M : MS) (u : Nat → Nat), M.P = (m.P.1, m.P.2.1, u) → M.rt = m.rt → X L xs 81 21 [.ref 8, .int (nI s), .int (en n), .int (en ch), .int (en p)] [] (ml h M) = some (ml h ((M.sP (if p = 0 then (m.P.1, m.P.2.1, u) else if m.P.1 p = n then (u1 m.P.1 p ch, m.P.2.1, u) else (m.P.1, u1 m.P.2.1 p ch, u))).srt (if p = 0 then u1 m.rt s ch else m.rt)), none) := by
    intro M u hM hr
    have h1 : M.P.1 = m.P.1 := by rw [hM]
    have h2 : M.P.2.1 = m.P.2.1 := by rw [hM]
    have h3 : M.P.2.2 = u := by rw [hM]
    have h4 : M.P.2 = (m.P.2.1, u) := by rw [hM]
    rw [k_81_21]
    by_cases p0 : p = 0
    · rw [if_neg (fun q => q ((en_m1 p31).mpr p0)), k_81_27, if_pos p0, if_pos p0]
      simp only [Hml, b1, b2, b3, b4, HF10, gd_t, decide_true, Bool.and_self, HQ, HZ, inb_nI hs (by decide), nI_clamp hs31, ml_rt]
      rw [k_81_34, k_81_67, hr, ← hM]
      rfl
    · have p1 : 1 ≤ p := by omega
      rw [if_pos (fun q => p0 ((en_m1 p31).mp q)), k_81_37, if_neg p0, if_neg p0, ← hr]
      have ep1 : p - 1 + 1 = p := by omega
      simp only [Hml, b1, b2, b3, b4, HF10, gd_t, decide_true, Bool.and_self, HQ, HZ, inb_en p1 hu (by decide), cl_en p1 p31, ep1, h1]
      have lb := hl p
      by_cases g : m.P.1 p = n
      · rw [if_neg (fun q => q (by rw [g])), k_81_48, if_pos g]
        simp only [Hml, b1, b2, b3, b4, HF10, gd_t, decide_true, Bool.and_self, HQ, HZ, inb_en p1 hu (by decide), cl_en p1 p31, ml_Pl h _ p1, h1, h4]
        rw [k_81_56, k_81_67]
        rfl
      · rw [if_pos (fun q => g ((en_inj (by omega) n31).mp q)), k_81_59, if_neg g]
        simp only [Hml, b1, b2, b3, b4, HF10, gd_t, decide_true, Bool.and_self, HQ, HZ, inb_en p1 hu (by decide), cl_en p1 p31, ml_Pr h _ p1, h1, h2, h3]
        rw [k_81_67]
        rfl
  rw [en_81, k_81_0]
  simp only [Hml, b1, b2, b3, b4, HF10, gd_t, decide_true, Bool.and_self, HQ, HZ, inb_en n1 n2 (by decide), cl_en n1 n31, en1, hp, en_m1 (show ch < 2 ^ 31 by omega)]
  have eT : tkP m.P n ch = if p = 0 then (m.P.1, m.P.2.1, if ch = 0 then m.P.2.2 else u1 m.P.2.2 ch p) else if m.P.1 p = n then (u1 m.P.1 p ch, m.P.2.1, if ch = 0 then m.P.2.2 else u1 m.P.2.2 ch p) else (m.P.1, u1 m.P.2.1 p ch, if ch = 0 then m.P.2.2 else u1 m.P.2.2 ch p) := by
    unfold tkP
    rw [hp]
  rw [eT]
  by_cases c0 : ch = 0
  · rw [if_pos c0, if_pos c0, tail m m.P.2.2 rfl rfl]
  · have c1 : 1 ≤ ch := by omega
    rw [if_neg c0, if_neg c0, k_81_13]
    simp only [Hml, b1, b2, b3, b4, HF10, gd_t, decide_true, Bool.and_self, HQ, HZ, inb_en c1 hc (by decide), cl_en c1 (show ch < 2 ^ 31 by omega), ml_Pu h _ c1]
    rw [tail (m.sP (m.P.1, m.P.2.1, u1 m.P.2.2 ch p)) (u1 m.P.2.2 ch p) rfl rfl]
    rfl
end M81
